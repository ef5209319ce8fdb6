def gT : List Cond := lw_tbl.filter goodWord
theorem gT_mem {w : Cond} (h : w ∈ lw_tbl) (hg : goodWord w = true) : w ∈ gT := List.mem_filter.mpr ⟨h, hg⟩
theorem gT_in {cx : Cond} {w : Cond} (h : w ∈ gT) : w ∈ cx :: gT ∧ ((w.onTables && w.keeps) = true ∨ ∃ ty, w = .arrayClass ty) := ⟨List.mem_cons_of_mem _ h, good_of_word (List.mem_filter.mp h).2⟩
theorem gT_I {cx cy : Cond} (h5 : cy ∈ gT) : GoodIn (cx :: gT) (cy :: gT) := fun w h => (List.mem_cons.mp h).elim (fun e => e ▸ gT_in h5) gT_in
theorem gT_V {cx cy : Cond} {own : String} {idx : Nat} {C : String} {y : MethodName} (h1 : Cond.methodLink own idx y ∈ gT) (h2 : Cond.instanceMethod y ∈ gT) (h3 : Cond.selects C y y ∈ gT) (h4 : Cond.initialized C ∈ gT) (h5 : cy ∈ gT) : GoodIn (cx :: gT) (wsV own idx C y (cy :: gT)) := fun w h => (List.mem_append.mp h).elim (fun h => gT_in ((List.forall_mem_cons.mpr ⟨h1, List.forall_mem_cons.mpr ⟨h2, List.forall_mem_cons.mpr ⟨h3, List.forall_mem_cons.mpr ⟨h4, fun _ h => absurd h List.not_mem_nil⟩⟩⟩⟩) w h)) (gT_I h5 w)
theorem gT_S {cx cy : Cond} {own : String} {idx : Nat} {y : MethodName} (h1 : Cond.methodLink own idx y ∈ gT) (h2 : Cond.static y ∈ gT) (h4 : Cond.initialized y.cls ∈ gT) (h5 : cy ∈ gT) : GoodIn (cx :: gT) (va_wsS own idx y (cy :: gT)) := fun w h => (List.mem_append.mp h).elim (fun h => gT_in ((List.forall_mem_cons.mpr ⟨h1, List.forall_mem_cons.mpr ⟨h2, List.forall_mem_cons.mpr ⟨h4, fun _ h => absurd h List.not_mem_nil⟩⟩⟩) w h)) (gT_I h5 w)
theorem gT_U {cx cy : Cond} {own : String} {idx : Nat} {C owner : String} {x y : MethodName} (h1 : Cond.methodLink own idx x ∈ gT) (h2 : Cond.sameMethod x.cls owner x.name x.desc ∈ gT) (h3 : Cond.selects C x y ∈ gT) (h4 : Cond.instanceMethod y ∈ gT) (h6 : Cond.initialized y.cls ∈ gT) (h5 : cy ∈ gT) : GoodIn (cx :: gT) (va_wsU own idx C owner x y (cy :: gT)) := fun w h => (List.mem_append.mp h).elim (fun h => gT_in ((List.forall_mem_cons.mpr ⟨h1, List.forall_mem_cons.mpr ⟨h2, List.forall_mem_cons.mpr ⟨h3, List.forall_mem_cons.mpr ⟨h4, List.forall_mem_cons.mpr ⟨h6, fun _ h => absurd h List.not_mem_nil⟩⟩⟩⟩⟩) w h)) (gT_I h5 w)
abbrev RX0 : String := "InodeDesk"
abbrev RX1 : String := "InodeDesk$Disk"
abbrev RX2 : String := "InodeDesk$Layout"
abbrev RX3 : String := "InodeDesk$Pool"
abbrev RX4 : String := "InodeDesk$Inodes"
abbrev RX5 : String := "InodeDesk$Listing"
abbrev RX6 : String := "InodeDesk$Heads"
abbrev RX7 : String := "InodeDesk$Checker"
abbrev RX8 : String := "InodeDesk$Tape"
abbrev RX9 : String := "InodeDesk$Source"
abbrev RX10 : String := "InodeDeskLaw"
abbrev RX11 : String := "InodeDesk$Pattern"
abbrev RX12 : String := "InodeDeskModel"
abbrev RJ0 : String := "java/lang/Object"
abbrev RJ1 : String := "java/lang/Math"
abbrev RJ2 : String := "java/util/Arrays"
abbrev RJ3 : String := "java/lang/Throwable"
abbrev RJ4 : String := "java/lang/StringBuilder"
abbrev RJ5 : String := "java/lang/AbstractStringBuilder"
abbrev RJ6 : String := "java/lang/StringUTF16"
abbrev RJ7 : String := "jdk/internal/util/ArraysSupport"
abbrev RJ8 : String := "java/lang/String"
abbrev RJ9 : String := "jdk/internal/util/Preconditions"
abbrev RJ10 : String := "java/lang/StringLatin1"
abbrev RJ11 : String := "java/lang/Integer"
abbrev RJ12 : String := "java/lang/IllegalArgumentException"
abbrev RJ13 : String := "java/lang/RuntimeException"
abbrev RJ14 : String := "java/lang/Exception"
abbrev RJ15 : String := "java/lang/ArrayIndexOutOfBoundsException"
abbrev RJ16 : String := "java/lang/IndexOutOfBoundsException"
abbrev RJ17 : String := "java/lang/IllegalStateException"
abbrev RJ18 : String := "java/lang/UnsupportedOperationException"
def TX0 : u_T := fun k => match k with
  | 0 => ("InodeDesk", "disk", "LInodeDesk$Disk;", true)
  | 1 => ("InodeDesk", "layout", "LInodeDesk$Layout;", true)
  | 2 => ("InodeDesk", "blockPool", "LInodeDesk$Pool;", true)
  | 3 => ("InodeDesk", "inodePool", "LInodeDesk$Pool;", true)
  | 4 => ("InodeDesk", "inodes", "LInodeDesk$Inodes;", true)
  | 5 => ("InodeDesk", "listing", "LInodeDesk$Listing;", true)
  | 6 => ("InodeDesk", "heads", "LInodeDesk$Heads;", true)
  | 7 => ("InodeDesk", "checker", "LInodeDesk$Checker;", true)
  | 8 => ("InodeDesk", "tape", "LInodeDesk$Tape;", true)
  | 9 => ("InodeDesk", "made", "Z", false)
  | _ => ("InodeDesk", "here", "I", false)
def tyX0 : Nat → FieldType := fun k => match k with
  | 0 => .object "InodeDesk$Disk"
  | 1 => .object "InodeDesk$Layout"
  | 2 => .object "InodeDesk$Pool"
  | 3 => .object "InodeDesk$Pool"
  | 4 => .object "InodeDesk$Inodes"
  | 5 => .object "InodeDesk$Listing"
  | 6 => .object "InodeDesk$Heads"
  | 7 => .object "InodeDesk$Checker"
  | 8 => .object "InodeDesk$Tape"
  | 9 => .boolean
  | _ => .int
theorem nmX0 : ∀ a, a < 11 → ∀ b, b < 11 → a ≠ b → (TX0 a).2.1 ≠ (TX0 b).2.1 := by decide +kernel
theorem tyX0_ok : ∀ k, k < 11 → parseFieldDescriptor (TX0 k).2.2.1 = some (tyX0 k) := by decide +kernel
def TX1 : u_T := fun k => match k with
  | _ => ("InodeDesk$Disk", "bytes", "[B", true)
def tyX1 : Nat → FieldType := fun k => match k with
  | _ => .array .byte
theorem nmX1 : ∀ a, a < 1 → ∀ b, b < 1 → a ≠ b → (TX1 a).2.1 ≠ (TX1 b).2.1 := by decide +kernel
theorem tyX1_ok : ∀ k, k < 1 → parseFieldDescriptor (TX1 k).2.2.1 = some (tyX1 k) := by decide +kernel
def TX2 : u_T := fun k => match k with
  | 0 => ("InodeDesk$Layout", "blocks", "I", true)
  | 1 => ("InodeDesk$Layout", "groupBlocks", "I", false)
  | 2 => ("InodeDesk$Layout", "groups", "I", false)
  | _ => ("InodeDesk$Layout", "groupInodes", "I", false)
def tyX2 : Nat → FieldType := fun k => match k with
  | 0 => .int
  | 1 => .int
  | 2 => .int
  | _ => .int
theorem nmX2 : ∀ a, a < 4 → ∀ b, b < 4 → a ≠ b → (TX2 a).2.1 ≠ (TX2 b).2.1 := by decide +kernel
theorem tyX2_ok : ∀ k, k < 4 → parseFieldDescriptor (TX2 k).2.2.1 = some (tyX2 k) := by decide +kernel
def TX3 : u_T := fun k => match k with
  | 0 => ("InodeDesk$Pool", "disk", "LInodeDesk$Disk;", true)
  | 1 => ("InodeDesk$Pool", "layout", "LInodeDesk$Layout;", true)
  | 2 => ("InodeDesk$Pool", "map", "I", true)
  | 3 => ("InodeDesk$Pool", "superCount", "I", true)
  | 4 => ("InodeDesk$Pool", "groupCount", "I", true)
  | _ => ("InodeDesk$Pool", "each", "I", false)
def tyX3 : Nat → FieldType := fun k => match k with
  | 0 => .object "InodeDesk$Disk"
  | 1 => .object "InodeDesk$Layout"
  | 2 => .int
  | 3 => .int
  | 4 => .int
  | _ => .int
theorem nmX3 : ∀ a, a < 6 → ∀ b, b < 6 → a ≠ b → (TX3 a).2.1 ≠ (TX3 b).2.1 := by decide +kernel
theorem tyX3_ok : ∀ k, k < 6 → parseFieldDescriptor (TX3 k).2.2.1 = some (tyX3 k) := by decide +kernel
def TX4 : u_T := fun k => match k with
  | 0 => ("InodeDesk$Inodes", "disk", "LInodeDesk$Disk;", true)
  | 1 => ("InodeDesk$Inodes", "layout", "LInodeDesk$Layout;", true)
  | _ => ("InodeDesk$Inodes", "blockPool", "LInodeDesk$Pool;", true)
def tyX4 : Nat → FieldType := fun k => match k with
  | 0 => .object "InodeDesk$Disk"
  | 1 => .object "InodeDesk$Layout"
  | _ => .object "InodeDesk$Pool"
theorem nmX4 : ∀ a, a < 3 → ∀ b, b < 3 → a ≠ b → (TX4 a).2.1 ≠ (TX4 b).2.1 := by decide +kernel
theorem tyX4_ok : ∀ k, k < 3 → parseFieldDescriptor (TX4 k).2.2.1 = some (tyX4 k) := by decide +kernel
def TX5 : u_T := fun k => match k with
  | 0 => ("InodeDesk$Listing", "disk", "LInodeDesk$Disk;", true)
  | 1 => ("InodeDesk$Listing", "inodes", "LInodeDesk$Inodes;", true)
  | 2 => ("InodeDesk$Listing", "entries", "[I", true)
  | _ => ("InodeDesk$Listing", "count", "I", false)
def tyX5 : Nat → FieldType := fun k => match k with
  | 0 => .object "InodeDesk$Disk"
  | 1 => .object "InodeDesk$Inodes"
  | 2 => .array .int
  | _ => .int
theorem nmX5 : ∀ a, a < 4 → ∀ b, b < 4 → a ≠ b → (TX5 a).2.1 ≠ (TX5 b).2.1 := by decide +kernel
theorem tyX5_ok : ∀ k, k < 4 → parseFieldDescriptor (TX5 k).2.2.1 = some (tyX5 k) := by decide +kernel
def TX6 : u_T := fun k => match k with
  | 0 => ("InodeDesk$Heads", "layout", "LInodeDesk$Layout;", true)
  | 1 => ("InodeDesk$Heads", "blockPool", "LInodeDesk$Pool;", true)
  | 2 => ("InodeDesk$Heads", "inodePool", "LInodeDesk$Pool;", true)
  | _ => ("InodeDesk$Heads", "inodes", "LInodeDesk$Inodes;", true)
def tyX6 : Nat → FieldType := fun k => match k with
  | 0 => .object "InodeDesk$Layout"
  | 1 => .object "InodeDesk$Pool"
  | 2 => .object "InodeDesk$Pool"
  | _ => .object "InodeDesk$Inodes"
theorem nmX6 : ∀ a, a < 4 → ∀ b, b < 4 → a ≠ b → (TX6 a).2.1 ≠ (TX6 b).2.1 := by decide +kernel
theorem tyX6_ok : ∀ k, k < 4 → parseFieldDescriptor (TX6 k).2.2.1 = some (tyX6 k) := by decide +kernel
def TX7 : u_T := fun k => match k with
  | 0 => ("InodeDesk$Checker", "disk", "LInodeDesk$Disk;", true)
  | 1 => ("InodeDesk$Checker", "layout", "LInodeDesk$Layout;", true)
  | 2 => ("InodeDesk$Checker", "blockPool", "LInodeDesk$Pool;", true)
  | 3 => ("InodeDesk$Checker", "inodePool", "LInodeDesk$Pool;", true)
  | 4 => ("InodeDesk$Checker", "inodes", "LInodeDesk$Inodes;", true)
  | 5 => ("InodeDesk$Checker", "listing", "LInodeDesk$Listing;", true)
  | 6 => ("InodeDesk$Checker", "heads", "LInodeDesk$Heads;", true)
  | 7 => ("InodeDesk$Checker", "draft", "LInodeDesk$Disk;", true)
  | 8 => ("InodeDesk$Checker", "claimed", "[B", true)
  | 9 => ("InodeDesk$Checker", "holders", "[I", true)
  | _ => ("InodeDesk$Checker", "parents", "[I", true)
def tyX7 : Nat → FieldType := fun k => match k with
  | 0 => .object "InodeDesk$Disk"
  | 1 => .object "InodeDesk$Layout"
  | 2 => .object "InodeDesk$Pool"
  | 3 => .object "InodeDesk$Pool"
  | 4 => .object "InodeDesk$Inodes"
  | 5 => .object "InodeDesk$Listing"
  | 6 => .object "InodeDesk$Heads"
  | 7 => .object "InodeDesk$Disk"
  | 8 => .array .byte
  | 9 => .array .int
  | _ => .array .int
theorem nmX7 : ∀ a, a < 11 → ∀ b, b < 11 → a ≠ b → (TX7 a).2.1 ≠ (TX7 b).2.1 := by decide +kernel
theorem tyX7_ok : ∀ k, k < 11 → parseFieldDescriptor (TX7 k).2.2.1 = some (tyX7 k) := by decide +kernel
def TX8 : u_T := fun k => match k with
  | 0 => ("InodeDesk$Tape", "bytes", "[B", true)
  | 1 => ("InodeDesk$Tape", "ready", "[B", true)
  | _ => ("InodeDesk$Tape", "length", "I", false)
def tyX8 : Nat → FieldType := fun k => match k with
  | 0 => .array .byte
  | 1 => .array .byte
  | _ => .int
theorem nmX8 : ∀ a, a < 3 → ∀ b, b < 3 → a ≠ b → (TX8 a).2.1 ≠ (TX8 b).2.1 := by decide +kernel
theorem tyX8_ok : ∀ k, k < 3 → parseFieldDescriptor (TX8 k).2.2.1 = some (tyX8 k) := by decide +kernel
def TX11 : u_T := fun k => match k with
  | _ => ("InodeDesk$Pattern", "seed", "I", true)
def tyX11 : Nat → FieldType := fun k => match k with
  | _ => .int
theorem nmX11 : ∀ a, a < 1 → ∀ b, b < 1 → a ≠ b → (TX11 a).2.1 ≠ (TX11 b).2.1 := by decide +kernel
theorem tyX11_ok : ∀ k, k < 1 → parseFieldDescriptor (TX11 k).2.2.1 = some (tyX11 k) := by decide +kernel
def TX12 : u_T := fun k => match k with
  | 0 => ("InodeDeskModel", "thrown", "I", false)
  | 1 => ("InodeDeskModel", "blocks", "I", true)
  | 2 => ("InodeDeskModel", "data", "[B", true)
  | 3 => ("InodeDeskModel", "image", "[B", true)
  | 4 => ("InodeDeskModel", "tape", "[B", true)
  | 5 => ("InodeDeskModel", "ready", "[B", true)
  | 6 => ("InodeDeskModel", "taped", "I", false)
  | 7 => ("InodeDeskModel", "made", "Z", false)
  | 8 => ("InodeDeskModel", "shown", "Z", false)
  | 9 => ("InodeDeskModel", "p", "I", false)
  | 10 => ("InodeDeskModel", "g", "I", false)
  | 11 => ("InodeDeskModel", "j", "I", false)
  | 12 => ("InodeDeskModel", "q", "I", false)
  | 13 => ("InodeDeskModel", "id", "I", false)
  | 14 => ("InodeDeskModel", "used", "[Z", true)
  | 15 => ("InodeDeskModel", "next", "[I", true)
  | 16 => ("InodeDeskModel", "kind", "[I", true)
  | 17 => ("InodeDeskModel", "size", "[I", true)
  | 18 => ("InodeDeskModel", "links", "[I", true)
  | 19 => ("InodeDeskModel", "many", "[I", true)
  | 20 => ("InodeDeskModel", "first", "[I", true)
  | 21 => ("InodeDeskModel", "last", "[I", true)
  | 22 => ("InodeDeskModel", "single", "[I", true)
  | 23 => ("InodeDeskModel", "twofold", "[I", true)
  | 24 => ("InodeDeskModel", "far", "[I", true)
  | 25 => ("InodeDeskModel", "parent", "[I", true)
  | 26 => ("InodeDeskModel", "time", "[J", true)
  | 27 => ("InodeDeskModel", "here", "I", false)
  | 28 => ("InodeDeskModel", "found", "I", false)
  | 29 => ("InodeDeskModel", "before", "I", false)
  | 30 => ("InodeDeskModel", "name", "[I", true)
  | 31 => ("InodeDeskModel", "length", "I", false)
  | _ => ("InodeDeskModel", "seen", "I", false)
def tyX12 : Nat → FieldType := fun k => match k with
  | 0 => .int
  | 1 => .int
  | 2 => .array .byte
  | 3 => .array .byte
  | 4 => .array .byte
  | 5 => .array .byte
  | 6 => .int
  | 7 => .boolean
  | 8 => .boolean
  | 9 => .int
  | 10 => .int
  | 11 => .int
  | 12 => .int
  | 13 => .int
  | 14 => .array .boolean
  | 15 => .array .int
  | 16 => .array .int
  | 17 => .array .int
  | 18 => .array .int
  | 19 => .array .int
  | 20 => .array .int
  | 21 => .array .int
  | 22 => .array .int
  | 23 => .array .int
  | 24 => .array .int
  | 25 => .array .int
  | 26 => .array .long
  | 27 => .int
  | 28 => .int
  | 29 => .int
  | 30 => .array .int
  | 31 => .int
  | _ => .int
theorem nmX12 : ∀ a, a < 33 → ∀ b, b < 33 → a ≠ b → (TX12 a).2.1 ≠ (TX12 b).2.1 := by decide +kernel
theorem tyX12_ok : ∀ k, k < 33 → parseFieldDescriptor (TX12 k).2.2.1 = some (tyX12 k) := by decide +kernel
abbrev vwCl : List vw_C := [(RX0, TX0, 11), (RX1, TX1, 1), (RX2, TX2, 4), (RX3, TX3, 6), (RX4, TX4, 3), (RX5, TX5, 4), (RX6, TX6, 4), (RX7, TX7, 11), (RX8, TX8, 3), (RX11, TX11, 1), (RX12, TX12, 33)]
abbrev cX1_length : ByteArray := prog_3_method_2_code
abbrev yX1_length : MethodName := ⟨RX1, "length", "()I"⟩
abbrev cX1_get : ByteArray := prog_3_method_3_code
abbrev yX1_get : MethodName := ⟨RX1, "get", "(I)I"⟩
abbrev cX1_put : ByteArray := prog_3_method_4_code
abbrev yX1_put : MethodName := ⟨RX1, "put", "(II)V"⟩
abbrev cX1_get2 : ByteArray := prog_3_method_5_code
abbrev yX1_get2 : MethodName := ⟨RX1, "get2", "(I)I"⟩
abbrev cX1_put2 : ByteArray := prog_3_method_6_code
abbrev yX1_put2 : MethodName := ⟨RX1, "put2", "(II)V"⟩
abbrev cX1_get4 : ByteArray := prog_3_method_7_code
abbrev yX1_get4 : MethodName := ⟨RX1, "get4", "(I)I"⟩
abbrev cX1_put4 : ByteArray := prog_3_method_8_code
abbrev yX1_put4 : MethodName := ⟨RX1, "put4", "(II)V"⟩
abbrev cJ2_rangeCheck : ByteArray := prog_31_method_30_code
abbrev yJ2_rangeCheck : MethodName := ⟨RJ2, "rangeCheck", "(III)V"⟩
abbrev cJ2_fill__ : ByteArray := prog_31_method_110_code
abbrev yJ2_fill__ : MethodName := ⟨RJ2, "fill", "([BIIB)V"⟩
abbrev cX1_fill : ByteArray := prog_3_method_9_code
abbrev yX1_fill : MethodName := ⟨RX1, "fill", "(III)V"⟩
abbrev cX1_copy : ByteArray := prog_3_method_10_code
abbrev yX1_copy : MethodName := ⟨RX1, "copy", "(III)V"⟩
abbrev cX1_isZero : ByteArray := prog_3_method_11_code
abbrev yX1_isZero : MethodName := ⟨RX1, "isZero", "(II)Z"⟩
abbrev cX2_choose : ByteArray := prog_6_method_2_code
abbrev yX2_choose : MethodName := ⟨RX2, "choose", "(II)Z"⟩
abbrev cX2_blocks : ByteArray := prog_6_method_3_code
abbrev yX2_blocks : MethodName := ⟨RX2, "blocks", "()I"⟩
abbrev cX2_groups : ByteArray := prog_6_method_4_code
abbrev yX2_groups : MethodName := ⟨RX2, "groups", "()I"⟩
abbrev cX2_groupBlocks : ByteArray := prog_6_method_5_code
abbrev yX2_groupBlocks : MethodName := ⟨RX2, "groupBlocks", "()I"⟩
abbrev cX2_groupInodes : ByteArray := prog_6_method_6_code
abbrev yX2_groupInodes : MethodName := ⟨RX2, "groupInodes", "()I"⟩
abbrev cX2_inodes : ByteArray := prog_6_method_7_code
abbrev yX2_inodes : MethodName := ⟨RX2, "inodes", "()I"⟩
abbrev cX2_fixedBlocks : ByteArray := prog_6_method_8_code
abbrev yX2_fixedBlocks : MethodName := ⟨RX2, "fixedBlocks", "()I"⟩
abbrev cX2_firstBlock : ByteArray := prog_6_method_9_code
abbrev yX2_firstBlock : MethodName := ⟨RX2, "firstBlock", "(I)I"⟩
abbrev cX2_blocksIn : ByteArray := prog_6_method_10_code
abbrev yX2_blocksIn : MethodName := ⟨RX2, "blocksIn", "(I)I"⟩
abbrev cX2_partAt : ByteArray := prog_6_method_11_code
abbrev yX2_partAt : MethodName := ⟨RX2, "partAt", "(II)I"⟩
abbrev cX2_groupOfInode : ByteArray := prog_6_method_12_code
abbrev yX2_groupOfInode : MethodName := ⟨RX2, "groupOfInode", "(I)I"⟩
abbrev cX2_inodeAt : ByteArray := prog_6_method_13_code
abbrev yX2_inodeAt : MethodName := ⟨RX2, "inodeAt", "(I)I"⟩
theorem q_1_53 : (.fieldLink RX1 15 "InodeDesk$Disk" "bytes" "[B" : Cond) ∈ gT := gT_mem (List.mem_append_right _ (List.mem_append_left _ (List.mem_of_getElem? (l := tables_1_1) (i := 53) rfl))) rfl
theorem q_3_50 : (.code yJ2_rangeCheck cJ2_rangeCheck 3 none : Cond) ∈ gT := gT_mem (List.mem_append_right _ (List.mem_append_right _ (List.mem_append_right _ (List.mem_append_left _ (List.mem_of_getElem? (l := tables_1_3) (i := 50) rfl))))) rfl
theorem q_3_48 : (.methodLink RJ2 13 yJ2_rangeCheck : Cond) ∈ gT := gT_mem (List.mem_append_right _ (List.mem_append_right _ (List.mem_append_right _ (List.mem_append_left _ (List.mem_of_getElem? (l := tables_1_3) (i := 48) rfl))))) rfl
theorem q_3_49 : (.static yJ2_rangeCheck : Cond) ∈ gT := gT_mem (List.mem_append_right _ (List.mem_append_right _ (List.mem_append_right _ (List.mem_append_left _ (List.mem_of_getElem? (l := tables_1_3) (i := 49) rfl))))) rfl
theorem q_1_14 : (.initialized RJ2 : Cond) ∈ gT := gT_mem (List.mem_append_right _ (List.mem_append_left _ (List.mem_of_getElem? (l := tables_1_1) (i := 14) rfl))) rfl
theorem q_3_47 : (.code yJ2_fill__ cJ2_fill__ 5 none : Cond) ∈ gT := gT_mem (List.mem_append_right _ (List.mem_append_right _ (List.mem_append_right _ (List.mem_append_left _ (List.mem_of_getElem? (l := tables_1_3) (i := 47) rfl))))) rfl
theorem q_3_45 : (.methodLink RX1 21 yJ2_fill__ : Cond) ∈ gT := gT_mem (List.mem_append_right _ (List.mem_append_right _ (List.mem_append_right _ (List.mem_append_left _ (List.mem_of_getElem? (l := tables_1_3) (i := 45) rfl))))) rfl
theorem q_3_46 : (.static yJ2_fill__ : Cond) ∈ gT := gT_mem (List.mem_append_right _ (List.mem_append_right _ (List.mem_append_right _ (List.mem_append_left _ (List.mem_of_getElem? (l := tables_1_3) (i := 46) rfl))))) rfl
theorem q_4_232 : (.methodLink RX1 27 arraycopyName : Cond) ∈ gT := gT_mem (List.mem_append_right _ (List.mem_append_right _ (List.mem_append_right _ (List.mem_append_right _ (List.mem_append_left _ (List.mem_of_getElem? (l := tables_1_4) (i := 232) rfl)))))) rfl
theorem q_2_35 : (.native arraycopyName : Cond) ∈ gT := gT_mem (List.mem_append_right _ (List.mem_append_right _ (List.mem_append_left _ (List.mem_of_getElem? (l := tables_1_2) (i := 35) rfl)))) rfl
theorem q_2_34 : (.static arraycopyName : Cond) ∈ gT := gT_mem (List.mem_append_right _ (List.mem_append_right _ (List.mem_append_left _ (List.mem_of_getElem? (l := tables_1_2) (i := 34) rfl)))) rfl
theorem q_1_13 : (.initialized "java/lang/System" : Cond) ∈ gT := gT_mem (List.mem_append_right _ (List.mem_append_left _ (List.mem_of_getElem? (l := tables_1_1) (i := 13) rfl))) rfl
theorem q_2_58 : (.code yX1_get cX1_get 2 (some .int) : Cond) ∈ gT := gT_mem (List.mem_append_right _ (List.mem_append_right _ (List.mem_append_left _ (List.mem_of_getElem? (l := tables_1_2) (i := 58) rfl)))) rfl
theorem q_2_127 : (.methodLink RX1 37 yX1_get : Cond) ∈ gT := gT_mem (List.mem_append_right _ (List.mem_append_right _ (List.mem_append_left _ (List.mem_of_getElem? (l := tables_1_2) (i := 127) rfl)))) rfl
theorem q_2_56 : (.instanceMethod yX1_get : Cond) ∈ gT := gT_mem (List.mem_append_right _ (List.mem_append_right _ (List.mem_append_left _ (List.mem_of_getElem? (l := tables_1_2) (i := 56) rfl)))) rfl
theorem q_2_57 : (.selects RX1 yX1_get yX1_get : Cond) ∈ gT := gT_mem (List.mem_append_right _ (List.mem_append_right _ (List.mem_append_left _ (List.mem_of_getElem? (l := tables_1_2) (i := 57) rfl)))) rfl
theorem q_1_3 : (.initialized RX1 : Cond) ∈ gT := gT_mem (List.mem_append_right _ (List.mem_append_left _ (List.mem_of_getElem? (l := tables_1_1) (i := 3) rfl))) rfl
theorem q_2_116 : (.code yX1_get4 cX1_get4 2 (some .int) : Cond) ∈ gT := gT_mem (List.mem_append_right _ (List.mem_append_right _ (List.mem_append_left _ (List.mem_of_getElem? (l := tables_1_2) (i := 116) rfl)))) rfl
theorem q_2_126 : (.methodLink RX1 33 yX1_get4 : Cond) ∈ gT := gT_mem (List.mem_append_right _ (List.mem_append_right _ (List.mem_append_left _ (List.mem_of_getElem? (l := tables_1_2) (i := 126) rfl)))) rfl
theorem q_2_114 : (.instanceMethod yX1_get4 : Cond) ∈ gT := gT_mem (List.mem_append_right _ (List.mem_append_right _ (List.mem_append_left _ (List.mem_of_getElem? (l := tables_1_2) (i := 114) rfl)))) rfl
theorem q_2_115 : (.selects RX1 yX1_get4 yX1_get4 : Cond) ∈ gT := gT_mem (List.mem_append_right _ (List.mem_append_right _ (List.mem_append_left _ (List.mem_of_getElem? (l := tables_1_2) (i := 115) rfl)))) rfl
theorem q_1_64 : (.fieldLink RX2 9 "InodeDesk$Layout" "blocks" "I" : Cond) ∈ gT := gT_mem (List.mem_append_right _ (List.mem_append_left _ (List.mem_of_getElem? (l := tables_1_1) (i := 64) rfl))) rfl
theorem q_1_65 : (.fieldLink RX2 15 "InodeDesk$Layout" "groupBlocks" "I" : Cond) ∈ gT := gT_mem (List.mem_append_right _ (List.mem_append_left _ (List.mem_of_getElem? (l := tables_1_1) (i := 65) rfl))) rfl
theorem q_1_66 : (.fieldLink RX2 18 "InodeDesk$Layout" "groups" "I" : Cond) ∈ gT := gT_mem (List.mem_append_right _ (List.mem_append_left _ (List.mem_of_getElem? (l := tables_1_1) (i := 66) rfl))) rfl
theorem q_1_67 : (.fieldLink RX2 21 "InodeDesk$Layout" "groupInodes" "I" : Cond) ∈ gT := gT_mem (List.mem_append_right _ (List.mem_append_left _ (List.mem_of_getElem? (l := tables_1_1) (i := 67) rfl))) rfl
theorem q_2_84 : (.code yX2_firstBlock cX2_firstBlock 2 (some .int) : Cond) ∈ gT := gT_mem (List.mem_append_right _ (List.mem_append_right _ (List.mem_append_left _ (List.mem_of_getElem? (l := tables_1_2) (i := 84) rfl)))) rfl
theorem q_3_31 : (.methodLink RX2 24 yX2_firstBlock : Cond) ∈ gT := gT_mem (List.mem_append_right _ (List.mem_append_right _ (List.mem_append_right _ (List.mem_append_left _ (List.mem_of_getElem? (l := tables_1_3) (i := 31) rfl))))) rfl
theorem q_2_82 : (.instanceMethod yX2_firstBlock : Cond) ∈ gT := gT_mem (List.mem_append_right _ (List.mem_append_right _ (List.mem_append_left _ (List.mem_of_getElem? (l := tables_1_2) (i := 82) rfl)))) rfl
theorem q_2_83 : (.selects RX2 yX2_firstBlock yX2_firstBlock : Cond) ∈ gT := gT_mem (List.mem_append_right _ (List.mem_append_right _ (List.mem_append_left _ (List.mem_of_getElem? (l := tables_1_2) (i := 83) rfl)))) rfl
theorem q_1_4 : (.initialized RX2 : Cond) ∈ gT := gT_mem (List.mem_append_right _ (List.mem_append_left _ (List.mem_of_getElem? (l := tables_1_1) (i := 4) rfl))) rfl
theorem q_3_32 : (.methodLink RX2 28 Lib.Math.min.name : Cond) ∈ gT := gT_mem (List.mem_append_right _ (List.mem_append_right _ (List.mem_append_right _ (List.mem_append_left _ (List.mem_of_getElem? (l := tables_1_3) (i := 32) (by decide +kernel)))))) rfl
theorem q_1_41 : (.static Lib.Math.min.name : Cond) ∈ gT := gT_mem (List.mem_append_right _ (List.mem_append_left _ (List.mem_of_getElem? (l := tables_1_1) (i := 41) (by decide +kernel)))) rfl
theorem q_1_2 : (.initialized "java/lang/Math" : Cond) ∈ gT := gT_mem (List.mem_append_right _ (List.mem_append_left _ (List.mem_of_getElem? (l := tables_1_1) (i := 2) rfl))) rfl
theorem q_1_42 : (.code Lib.Math.min.name Lib.Math.min.code 2 (some .int) : Cond) ∈ gT := gT_mem (List.mem_append_right _ (List.mem_append_left _ (List.mem_of_getElem? (l := tables_1_1) (i := 42) (by decide +kernel)))) rfl
theorem q_1_234 : (.laysFinal "InodeDesk" "InodeDesk" "disk" "LInodeDesk$Disk;" : Cond) ∈ gT := gT_mem (List.mem_append_right _ (List.mem_append_left _ (List.mem_of_getElem? (l := tables_1_1) (i := 234) rfl))) rfl
theorem q_1_236 : (.laysFinal "InodeDesk" "InodeDesk" "layout" "LInodeDesk$Layout;" : Cond) ∈ gT := gT_mem (List.mem_append_right _ (List.mem_append_left _ (List.mem_of_getElem? (l := tables_1_1) (i := 236) rfl))) rfl
theorem q_1_238 : (.laysFinal "InodeDesk" "InodeDesk" "blockPool" "LInodeDesk$Pool;" : Cond) ∈ gT := gT_mem (List.mem_append_right _ (List.mem_append_left _ (List.mem_of_getElem? (l := tables_1_1) (i := 238) rfl))) rfl
theorem q_2_0 : (.laysFinal "InodeDesk" "InodeDesk" "inodePool" "LInodeDesk$Pool;" : Cond) ∈ gT := gT_mem (List.mem_append_right _ (List.mem_append_right _ (List.mem_append_left _ (List.mem_of_getElem? (l := tables_1_2) (i := 0) rfl)))) rfl
theorem q_2_2 : (.laysFinal "InodeDesk" "InodeDesk" "inodes" "LInodeDesk$Inodes;" : Cond) ∈ gT := gT_mem (List.mem_append_right _ (List.mem_append_right _ (List.mem_append_left _ (List.mem_of_getElem? (l := tables_1_2) (i := 2) rfl)))) rfl
theorem q_2_4 : (.laysFinal "InodeDesk" "InodeDesk" "listing" "LInodeDesk$Listing;" : Cond) ∈ gT := gT_mem (List.mem_append_right _ (List.mem_append_right _ (List.mem_append_left _ (List.mem_of_getElem? (l := tables_1_2) (i := 4) rfl)))) rfl
theorem q_2_6 : (.laysFinal "InodeDesk" "InodeDesk" "heads" "LInodeDesk$Heads;" : Cond) ∈ gT := gT_mem (List.mem_append_right _ (List.mem_append_right _ (List.mem_append_left _ (List.mem_of_getElem? (l := tables_1_2) (i := 6) rfl)))) rfl
theorem q_2_8 : (.laysFinal "InodeDesk" "InodeDesk" "checker" "LInodeDesk$Checker;" : Cond) ∈ gT := gT_mem (List.mem_append_right _ (List.mem_append_right _ (List.mem_append_left _ (List.mem_of_getElem? (l := tables_1_2) (i := 8) rfl)))) rfl
theorem q_2_10 : (.laysFinal "InodeDesk" "InodeDesk" "tape" "LInodeDesk$Tape;" : Cond) ∈ gT := gT_mem (List.mem_append_right _ (List.mem_append_right _ (List.mem_append_left _ (List.mem_of_getElem? (l := tables_1_2) (i := 10) rfl)))) rfl
theorem q_2_12 : (.lays "InodeDesk" "InodeDesk" "made" "Z" : Cond) ∈ gT := gT_mem (List.mem_append_right _ (List.mem_append_right _ (List.mem_append_left _ (List.mem_of_getElem? (l := tables_1_2) (i := 12) rfl)))) rfl
theorem q_2_14 : (.lays "InodeDesk" "InodeDesk" "here" "I" : Cond) ∈ gT := gT_mem (List.mem_append_right _ (List.mem_append_right _ (List.mem_append_left _ (List.mem_of_getElem? (l := tables_1_2) (i := 14) rfl)))) rfl
theorem q_1_54 : (.laysFinal "InodeDesk$Disk" "InodeDesk$Disk" "bytes" "[B" : Cond) ∈ gT := gT_mem (List.mem_append_right _ (List.mem_append_left _ (List.mem_of_getElem? (l := tables_1_1) (i := 54) rfl))) rfl
theorem q_1_68 : (.laysFinal "InodeDesk$Layout" "InodeDesk$Layout" "blocks" "I" : Cond) ∈ gT := gT_mem (List.mem_append_right _ (List.mem_append_left _ (List.mem_of_getElem? (l := tables_1_1) (i := 68) rfl))) rfl
theorem q_1_70 : (.lays "InodeDesk$Layout" "InodeDesk$Layout" "groupBlocks" "I" : Cond) ∈ gT := gT_mem (List.mem_append_right _ (List.mem_append_left _ (List.mem_of_getElem? (l := tables_1_1) (i := 70) rfl))) rfl
theorem q_1_72 : (.lays "InodeDesk$Layout" "InodeDesk$Layout" "groups" "I" : Cond) ∈ gT := gT_mem (List.mem_append_right _ (List.mem_append_left _ (List.mem_of_getElem? (l := tables_1_1) (i := 72) rfl))) rfl
theorem q_1_74 : (.lays "InodeDesk$Layout" "InodeDesk$Layout" "groupInodes" "I" : Cond) ∈ gT := gT_mem (List.mem_append_right _ (List.mem_append_left _ (List.mem_of_getElem? (l := tables_1_1) (i := 74) rfl))) rfl
theorem q_1_89 : (.laysFinal "InodeDesk$Pool" "InodeDesk$Pool" "disk" "LInodeDesk$Disk;" : Cond) ∈ gT := gT_mem (List.mem_append_right _ (List.mem_append_left _ (List.mem_of_getElem? (l := tables_1_1) (i := 89) rfl))) rfl
theorem q_1_91 : (.laysFinal "InodeDesk$Pool" "InodeDesk$Pool" "layout" "LInodeDesk$Layout;" : Cond) ∈ gT := gT_mem (List.mem_append_right _ (List.mem_append_left _ (List.mem_of_getElem? (l := tables_1_1) (i := 91) rfl))) rfl
theorem q_1_93 : (.laysFinal "InodeDesk$Pool" "InodeDesk$Pool" "map" "I" : Cond) ∈ gT := gT_mem (List.mem_append_right _ (List.mem_append_left _ (List.mem_of_getElem? (l := tables_1_1) (i := 93) rfl))) rfl
theorem q_1_95 : (.laysFinal "InodeDesk$Pool" "InodeDesk$Pool" "superCount" "I" : Cond) ∈ gT := gT_mem (List.mem_append_right _ (List.mem_append_left _ (List.mem_of_getElem? (l := tables_1_1) (i := 95) rfl))) rfl
theorem q_1_97 : (.laysFinal "InodeDesk$Pool" "InodeDesk$Pool" "groupCount" "I" : Cond) ∈ gT := gT_mem (List.mem_append_right _ (List.mem_append_left _ (List.mem_of_getElem? (l := tables_1_1) (i := 97) rfl))) rfl
theorem q_1_99 : (.lays "InodeDesk$Pool" "InodeDesk$Pool" "each" "I" : Cond) ∈ gT := gT_mem (List.mem_append_right _ (List.mem_append_left _ (List.mem_of_getElem? (l := tables_1_1) (i := 99) rfl))) rfl
theorem q_1_111 : (.laysFinal "InodeDesk$Inodes" "InodeDesk$Inodes" "disk" "LInodeDesk$Disk;" : Cond) ∈ gT := gT_mem (List.mem_append_right _ (List.mem_append_left _ (List.mem_of_getElem? (l := tables_1_1) (i := 111) rfl))) rfl
theorem q_1_113 : (.laysFinal "InodeDesk$Inodes" "InodeDesk$Inodes" "layout" "LInodeDesk$Layout;" : Cond) ∈ gT := gT_mem (List.mem_append_right _ (List.mem_append_left _ (List.mem_of_getElem? (l := tables_1_1) (i := 113) rfl))) rfl
theorem q_1_115 : (.laysFinal "InodeDesk$Inodes" "InodeDesk$Inodes" "blockPool" "LInodeDesk$Pool;" : Cond) ∈ gT := gT_mem (List.mem_append_right _ (List.mem_append_left _ (List.mem_of_getElem? (l := tables_1_1) (i := 115) rfl))) rfl
theorem q_1_128 : (.laysFinal "InodeDesk$Listing" "InodeDesk$Listing" "disk" "LInodeDesk$Disk;" : Cond) ∈ gT := gT_mem (List.mem_append_right _ (List.mem_append_left _ (List.mem_of_getElem? (l := tables_1_1) (i := 128) rfl))) rfl
theorem q_1_130 : (.laysFinal "InodeDesk$Listing" "InodeDesk$Listing" "inodes" "LInodeDesk$Inodes;" : Cond) ∈ gT := gT_mem (List.mem_append_right _ (List.mem_append_left _ (List.mem_of_getElem? (l := tables_1_1) (i := 130) rfl))) rfl
theorem q_1_132 : (.laysFinal "InodeDesk$Listing" "InodeDesk$Listing" "entries" "[I" : Cond) ∈ gT := gT_mem (List.mem_append_right _ (List.mem_append_left _ (List.mem_of_getElem? (l := tables_1_1) (i := 132) rfl))) rfl
theorem q_1_134 : (.lays "InodeDesk$Listing" "InodeDesk$Listing" "count" "I" : Cond) ∈ gT := gT_mem (List.mem_append_right _ (List.mem_append_left _ (List.mem_of_getElem? (l := tables_1_1) (i := 134) rfl))) rfl
theorem q_1_148 : (.laysFinal "InodeDesk$Heads" "InodeDesk$Heads" "layout" "LInodeDesk$Layout;" : Cond) ∈ gT := gT_mem (List.mem_append_right _ (List.mem_append_left _ (List.mem_of_getElem? (l := tables_1_1) (i := 148) rfl))) rfl
theorem q_1_150 : (.laysFinal "InodeDesk$Heads" "InodeDesk$Heads" "blockPool" "LInodeDesk$Pool;" : Cond) ∈ gT := gT_mem (List.mem_append_right _ (List.mem_append_left _ (List.mem_of_getElem? (l := tables_1_1) (i := 150) rfl))) rfl
theorem q_1_152 : (.laysFinal "InodeDesk$Heads" "InodeDesk$Heads" "inodePool" "LInodeDesk$Pool;" : Cond) ∈ gT := gT_mem (List.mem_append_right _ (List.mem_append_left _ (List.mem_of_getElem? (l := tables_1_1) (i := 152) rfl))) rfl
theorem q_1_154 : (.laysFinal "InodeDesk$Heads" "InodeDesk$Heads" "inodes" "LInodeDesk$Inodes;" : Cond) ∈ gT := gT_mem (List.mem_append_right _ (List.mem_append_left _ (List.mem_of_getElem? (l := tables_1_1) (i := 154) rfl))) rfl
theorem q_1_181 : (.laysFinal "InodeDesk$Checker" "InodeDesk$Checker" "disk" "LInodeDesk$Disk;" : Cond) ∈ gT := gT_mem (List.mem_append_right _ (List.mem_append_left _ (List.mem_of_getElem? (l := tables_1_1) (i := 181) rfl))) rfl
theorem q_1_183 : (.laysFinal "InodeDesk$Checker" "InodeDesk$Checker" "layout" "LInodeDesk$Layout;" : Cond) ∈ gT := gT_mem (List.mem_append_right _ (List.mem_append_left _ (List.mem_of_getElem? (l := tables_1_1) (i := 183) rfl))) rfl
theorem q_1_185 : (.laysFinal "InodeDesk$Checker" "InodeDesk$Checker" "blockPool" "LInodeDesk$Pool;" : Cond) ∈ gT := gT_mem (List.mem_append_right _ (List.mem_append_left _ (List.mem_of_getElem? (l := tables_1_1) (i := 185) rfl))) rfl
theorem q_1_187 : (.laysFinal "InodeDesk$Checker" "InodeDesk$Checker" "inodePool" "LInodeDesk$Pool;" : Cond) ∈ gT := gT_mem (List.mem_append_right _ (List.mem_append_left _ (List.mem_of_getElem? (l := tables_1_1) (i := 187) rfl))) rfl
theorem q_1_189 : (.laysFinal "InodeDesk$Checker" "InodeDesk$Checker" "inodes" "LInodeDesk$Inodes;" : Cond) ∈ gT := gT_mem (List.mem_append_right _ (List.mem_append_left _ (List.mem_of_getElem? (l := tables_1_1) (i := 189) rfl))) rfl
theorem q_1_191 : (.laysFinal "InodeDesk$Checker" "InodeDesk$Checker" "listing" "LInodeDesk$Listing;" : Cond) ∈ gT := gT_mem (List.mem_append_right _ (List.mem_append_left _ (List.mem_of_getElem? (l := tables_1_1) (i := 191) rfl))) rfl
theorem q_1_193 : (.laysFinal "InodeDesk$Checker" "InodeDesk$Checker" "heads" "LInodeDesk$Heads;" : Cond) ∈ gT := gT_mem (List.mem_append_right _ (List.mem_append_left _ (List.mem_of_getElem? (l := tables_1_1) (i := 193) rfl))) rfl
theorem q_1_195 : (.laysFinal "InodeDesk$Checker" "InodeDesk$Checker" "draft" "LInodeDesk$Disk;" : Cond) ∈ gT := gT_mem (List.mem_append_right _ (List.mem_append_left _ (List.mem_of_getElem? (l := tables_1_1) (i := 195) rfl))) rfl
theorem q_1_197 : (.laysFinal "InodeDesk$Checker" "InodeDesk$Checker" "claimed" "[B" : Cond) ∈ gT := gT_mem (List.mem_append_right _ (List.mem_append_left _ (List.mem_of_getElem? (l := tables_1_1) (i := 197) rfl))) rfl
theorem q_1_199 : (.laysFinal "InodeDesk$Checker" "InodeDesk$Checker" "holders" "[I" : Cond) ∈ gT := gT_mem (List.mem_append_right _ (List.mem_append_left _ (List.mem_of_getElem? (l := tables_1_1) (i := 199) rfl))) rfl
theorem q_1_201 : (.laysFinal "InodeDesk$Checker" "InodeDesk$Checker" "parents" "[I" : Cond) ∈ gT := gT_mem (List.mem_append_right _ (List.mem_append_left _ (List.mem_of_getElem? (l := tables_1_1) (i := 201) rfl))) rfl
theorem q_1_216 : (.laysFinal "InodeDesk$Tape" "InodeDesk$Tape" "bytes" "[B" : Cond) ∈ gT := gT_mem (List.mem_append_right _ (List.mem_append_left _ (List.mem_of_getElem? (l := tables_1_1) (i := 216) rfl))) rfl
theorem q_1_218 : (.laysFinal "InodeDesk$Tape" "InodeDesk$Tape" "ready" "[B" : Cond) ∈ gT := gT_mem (List.mem_append_right _ (List.mem_append_left _ (List.mem_of_getElem? (l := tables_1_1) (i := 218) rfl))) rfl
theorem q_1_220 : (.lays "InodeDesk$Tape" "InodeDesk$Tape" "length" "I" : Cond) ∈ gT := gT_mem (List.mem_append_right _ (List.mem_append_left _ (List.mem_of_getElem? (l := tables_1_1) (i := 220) rfl))) rfl
theorem q_6_47 : (.laysFinal "InodeDesk$Pattern" "InodeDesk$Pattern" "seed" "I" : Cond) ∈ gT := gT_mem (List.mem_append_right _ (List.mem_append_right _ (List.mem_append_right _ (List.mem_append_right _ (List.mem_append_right _ (List.mem_append_right _ (List.mem_append_left _ (List.mem_of_getElem? (l := tables_1_6) (i := 47) rfl)))))))) rfl
theorem q_6_145 : (.lays "InodeDeskModel" "InodeDeskModel" "thrown" "I" : Cond) ∈ gT := gT_mem (List.mem_append_right _ (List.mem_append_right _ (List.mem_append_right _ (List.mem_append_right _ (List.mem_append_right _ (List.mem_append_right _ (List.mem_append_left _ (List.mem_of_getElem? (l := tables_1_6) (i := 145) rfl)))))))) rfl
theorem q_6_147 : (.laysFinal "InodeDeskModel" "InodeDeskModel" "blocks" "I" : Cond) ∈ gT := gT_mem (List.mem_append_right _ (List.mem_append_right _ (List.mem_append_right _ (List.mem_append_right _ (List.mem_append_right _ (List.mem_append_right _ (List.mem_append_left _ (List.mem_of_getElem? (l := tables_1_6) (i := 147) rfl)))))))) rfl
theorem q_6_149 : (.laysFinal "InodeDeskModel" "InodeDeskModel" "data" "[B" : Cond) ∈ gT := gT_mem (List.mem_append_right _ (List.mem_append_right _ (List.mem_append_right _ (List.mem_append_right _ (List.mem_append_right _ (List.mem_append_right _ (List.mem_append_left _ (List.mem_of_getElem? (l := tables_1_6) (i := 149) rfl)))))))) rfl
theorem q_6_151 : (.laysFinal "InodeDeskModel" "InodeDeskModel" "image" "[B" : Cond) ∈ gT := gT_mem (List.mem_append_right _ (List.mem_append_right _ (List.mem_append_right _ (List.mem_append_right _ (List.mem_append_right _ (List.mem_append_right _ (List.mem_append_left _ (List.mem_of_getElem? (l := tables_1_6) (i := 151) rfl)))))))) rfl
theorem q_6_153 : (.laysFinal "InodeDeskModel" "InodeDeskModel" "tape" "[B" : Cond) ∈ gT := gT_mem (List.mem_append_right _ (List.mem_append_right _ (List.mem_append_right _ (List.mem_append_right _ (List.mem_append_right _ (List.mem_append_right _ (List.mem_append_left _ (List.mem_of_getElem? (l := tables_1_6) (i := 153) rfl)))))))) rfl
theorem q_6_155 : (.laysFinal "InodeDeskModel" "InodeDeskModel" "ready" "[B" : Cond) ∈ gT := gT_mem (List.mem_append_right _ (List.mem_append_right _ (List.mem_append_right _ (List.mem_append_right _ (List.mem_append_right _ (List.mem_append_right _ (List.mem_append_left _ (List.mem_of_getElem? (l := tables_1_6) (i := 155) rfl)))))))) rfl
theorem q_6_157 : (.lays "InodeDeskModel" "InodeDeskModel" "taped" "I" : Cond) ∈ gT := gT_mem (List.mem_append_right _ (List.mem_append_right _ (List.mem_append_right _ (List.mem_append_right _ (List.mem_append_right _ (List.mem_append_right _ (List.mem_append_left _ (List.mem_of_getElem? (l := tables_1_6) (i := 157) rfl)))))))) rfl
theorem q_6_159 : (.lays "InodeDeskModel" "InodeDeskModel" "made" "Z" : Cond) ∈ gT := gT_mem (List.mem_append_right _ (List.mem_append_right _ (List.mem_append_right _ (List.mem_append_right _ (List.mem_append_right _ (List.mem_append_right _ (List.mem_append_left _ (List.mem_of_getElem? (l := tables_1_6) (i := 159) rfl)))))))) rfl
theorem q_6_161 : (.lays "InodeDeskModel" "InodeDeskModel" "shown" "Z" : Cond) ∈ gT := gT_mem (List.mem_append_right _ (List.mem_append_right _ (List.mem_append_right _ (List.mem_append_right _ (List.mem_append_right _ (List.mem_append_right _ (List.mem_append_left _ (List.mem_of_getElem? (l := tables_1_6) (i := 161) rfl)))))))) rfl
theorem q_6_163 : (.lays "InodeDeskModel" "InodeDeskModel" "p" "I" : Cond) ∈ gT := gT_mem (List.mem_append_right _ (List.mem_append_right _ (List.mem_append_right _ (List.mem_append_right _ (List.mem_append_right _ (List.mem_append_right _ (List.mem_append_left _ (List.mem_of_getElem? (l := tables_1_6) (i := 163) rfl)))))))) rfl
theorem q_6_165 : (.lays "InodeDeskModel" "InodeDeskModel" "g" "I" : Cond) ∈ gT := gT_mem (List.mem_append_right _ (List.mem_append_right _ (List.mem_append_right _ (List.mem_append_right _ (List.mem_append_right _ (List.mem_append_right _ (List.mem_append_left _ (List.mem_of_getElem? (l := tables_1_6) (i := 165) rfl)))))))) rfl
theorem q_6_167 : (.lays "InodeDeskModel" "InodeDeskModel" "j" "I" : Cond) ∈ gT := gT_mem (List.mem_append_right _ (List.mem_append_right _ (List.mem_append_right _ (List.mem_append_right _ (List.mem_append_right _ (List.mem_append_right _ (List.mem_append_left _ (List.mem_of_getElem? (l := tables_1_6) (i := 167) rfl)))))))) rfl
theorem q_6_169 : (.lays "InodeDeskModel" "InodeDeskModel" "q" "I" : Cond) ∈ gT := gT_mem (List.mem_append_right _ (List.mem_append_right _ (List.mem_append_right _ (List.mem_append_right _ (List.mem_append_right _ (List.mem_append_right _ (List.mem_append_left _ (List.mem_of_getElem? (l := tables_1_6) (i := 169) rfl)))))))) rfl
theorem q_6_171 : (.lays "InodeDeskModel" "InodeDeskModel" "id" "I" : Cond) ∈ gT := gT_mem (List.mem_append_right _ (List.mem_append_right _ (List.mem_append_right _ (List.mem_append_right _ (List.mem_append_right _ (List.mem_append_right _ (List.mem_append_left _ (List.mem_of_getElem? (l := tables_1_6) (i := 171) rfl)))))))) rfl
theorem q_6_173 : (.laysFinal "InodeDeskModel" "InodeDeskModel" "used" "[Z" : Cond) ∈ gT := gT_mem (List.mem_append_right _ (List.mem_append_right _ (List.mem_append_right _ (List.mem_append_right _ (List.mem_append_right _ (List.mem_append_right _ (List.mem_append_left _ (List.mem_of_getElem? (l := tables_1_6) (i := 173) rfl)))))))) rfl
theorem q_6_175 : (.laysFinal "InodeDeskModel" "InodeDeskModel" "next" "[I" : Cond) ∈ gT := gT_mem (List.mem_append_right _ (List.mem_append_right _ (List.mem_append_right _ (List.mem_append_right _ (List.mem_append_right _ (List.mem_append_right _ (List.mem_append_left _ (List.mem_of_getElem? (l := tables_1_6) (i := 175) rfl)))))))) rfl
theorem q_6_177 : (.laysFinal "InodeDeskModel" "InodeDeskModel" "kind" "[I" : Cond) ∈ gT := gT_mem (List.mem_append_right _ (List.mem_append_right _ (List.mem_append_right _ (List.mem_append_right _ (List.mem_append_right _ (List.mem_append_right _ (List.mem_append_left _ (List.mem_of_getElem? (l := tables_1_6) (i := 177) rfl)))))))) rfl
theorem q_6_179 : (.laysFinal "InodeDeskModel" "InodeDeskModel" "size" "[I" : Cond) ∈ gT := gT_mem (List.mem_append_right _ (List.mem_append_right _ (List.mem_append_right _ (List.mem_append_right _ (List.mem_append_right _ (List.mem_append_right _ (List.mem_append_left _ (List.mem_of_getElem? (l := tables_1_6) (i := 179) rfl)))))))) rfl
theorem q_6_181 : (.laysFinal "InodeDeskModel" "InodeDeskModel" "links" "[I" : Cond) ∈ gT := gT_mem (List.mem_append_right _ (List.mem_append_right _ (List.mem_append_right _ (List.mem_append_right _ (List.mem_append_right _ (List.mem_append_right _ (List.mem_append_left _ (List.mem_of_getElem? (l := tables_1_6) (i := 181) rfl)))))))) rfl
theorem q_6_183 : (.laysFinal "InodeDeskModel" "InodeDeskModel" "many" "[I" : Cond) ∈ gT := gT_mem (List.mem_append_right _ (List.mem_append_right _ (List.mem_append_right _ (List.mem_append_right _ (List.mem_append_right _ (List.mem_append_right _ (List.mem_append_left _ (List.mem_of_getElem? (l := tables_1_6) (i := 183) rfl)))))))) rfl
theorem q_6_185 : (.laysFinal "InodeDeskModel" "InodeDeskModel" "first" "[I" : Cond) ∈ gT := gT_mem (List.mem_append_right _ (List.mem_append_right _ (List.mem_append_right _ (List.mem_append_right _ (List.mem_append_right _ (List.mem_append_right _ (List.mem_append_left _ (List.mem_of_getElem? (l := tables_1_6) (i := 185) rfl)))))))) rfl
theorem q_6_187 : (.laysFinal "InodeDeskModel" "InodeDeskModel" "last" "[I" : Cond) ∈ gT := gT_mem (List.mem_append_right _ (List.mem_append_right _ (List.mem_append_right _ (List.mem_append_right _ (List.mem_append_right _ (List.mem_append_right _ (List.mem_append_left _ (List.mem_of_getElem? (l := tables_1_6) (i := 187) rfl)))))))) rfl
theorem q_6_189 : (.laysFinal "InodeDeskModel" "InodeDeskModel" "single" "[I" : Cond) ∈ gT := gT_mem (List.mem_append_right _ (List.mem_append_right _ (List.mem_append_right _ (List.mem_append_right _ (List.mem_append_right _ (List.mem_append_right _ (List.mem_append_left _ (List.mem_of_getElem? (l := tables_1_6) (i := 189) rfl)))))))) rfl
theorem q_6_191 : (.laysFinal "InodeDeskModel" "InodeDeskModel" "twofold" "[I" : Cond) ∈ gT := gT_mem (List.mem_append_right _ (List.mem_append_right _ (List.mem_append_right _ (List.mem_append_right _ (List.mem_append_right _ (List.mem_append_right _ (List.mem_append_left _ (List.mem_of_getElem? (l := tables_1_6) (i := 191) rfl)))))))) rfl
theorem q_6_193 : (.laysFinal "InodeDeskModel" "InodeDeskModel" "far" "[I" : Cond) ∈ gT := gT_mem (List.mem_append_right _ (List.mem_append_right _ (List.mem_append_right _ (List.mem_append_right _ (List.mem_append_right _ (List.mem_append_right _ (List.mem_append_left _ (List.mem_of_getElem? (l := tables_1_6) (i := 193) rfl)))))))) rfl
theorem q_6_195 : (.laysFinal "InodeDeskModel" "InodeDeskModel" "parent" "[I" : Cond) ∈ gT := gT_mem (List.mem_append_right _ (List.mem_append_right _ (List.mem_append_right _ (List.mem_append_right _ (List.mem_append_right _ (List.mem_append_right _ (List.mem_append_left _ (List.mem_of_getElem? (l := tables_1_6) (i := 195) rfl)))))))) rfl
theorem q_6_197 : (.laysFinal "InodeDeskModel" "InodeDeskModel" "time" "[J" : Cond) ∈ gT := gT_mem (List.mem_append_right _ (List.mem_append_right _ (List.mem_append_right _ (List.mem_append_right _ (List.mem_append_right _ (List.mem_append_right _ (List.mem_append_left _ (List.mem_of_getElem? (l := tables_1_6) (i := 197) rfl)))))))) rfl
theorem q_6_199 : (.lays "InodeDeskModel" "InodeDeskModel" "here" "I" : Cond) ∈ gT := gT_mem (List.mem_append_right _ (List.mem_append_right _ (List.mem_append_right _ (List.mem_append_right _ (List.mem_append_right _ (List.mem_append_right _ (List.mem_append_left _ (List.mem_of_getElem? (l := tables_1_6) (i := 199) rfl)))))))) rfl
theorem q_6_201 : (.lays "InodeDeskModel" "InodeDeskModel" "found" "I" : Cond) ∈ gT := gT_mem (List.mem_append_right _ (List.mem_append_right _ (List.mem_append_right _ (List.mem_append_right _ (List.mem_append_right _ (List.mem_append_right _ (List.mem_append_left _ (List.mem_of_getElem? (l := tables_1_6) (i := 201) rfl)))))))) rfl
theorem q_6_203 : (.lays "InodeDeskModel" "InodeDeskModel" "before" "I" : Cond) ∈ gT := gT_mem (List.mem_append_right _ (List.mem_append_right _ (List.mem_append_right _ (List.mem_append_right _ (List.mem_append_right _ (List.mem_append_right _ (List.mem_append_left _ (List.mem_of_getElem? (l := tables_1_6) (i := 203) rfl)))))))) rfl
theorem q_6_205 : (.laysFinal "InodeDeskModel" "InodeDeskModel" "name" "[I" : Cond) ∈ gT := gT_mem (List.mem_append_right _ (List.mem_append_right _ (List.mem_append_right _ (List.mem_append_right _ (List.mem_append_right _ (List.mem_append_right _ (List.mem_append_left _ (List.mem_of_getElem? (l := tables_1_6) (i := 205) rfl)))))))) rfl
theorem q_6_207 : (.lays "InodeDeskModel" "InodeDeskModel" "length" "I" : Cond) ∈ gT := gT_mem (List.mem_append_right _ (List.mem_append_right _ (List.mem_append_right _ (List.mem_append_right _ (List.mem_append_right _ (List.mem_append_right _ (List.mem_append_left _ (List.mem_of_getElem? (l := tables_1_6) (i := 207) rfl)))))))) rfl
theorem q_6_209 : (.lays "InodeDeskModel" "InodeDeskModel" "seen" "I" : Cond) ∈ gT := gT_mem (List.mem_append_right _ (List.mem_append_right _ (List.mem_append_right _ (List.mem_append_right _ (List.mem_append_right _ (List.mem_append_right _ (List.mem_append_left _ (List.mem_of_getElem? (l := tables_1_6) (i := 209) rfl)))))))) rfl
theorem in_X0 : ∀ x ∈ u_ws RX0 TX0 11, x ∈ gT := List.forall_mem_cons.mpr ⟨q_1_234, List.forall_mem_cons.mpr ⟨q_1_236, List.forall_mem_cons.mpr ⟨q_1_238, List.forall_mem_cons.mpr ⟨q_2_0, List.forall_mem_cons.mpr ⟨q_2_2, List.forall_mem_cons.mpr ⟨q_2_4, List.forall_mem_cons.mpr ⟨q_2_6, List.forall_mem_cons.mpr ⟨q_2_8, List.forall_mem_cons.mpr ⟨q_2_10, List.forall_mem_cons.mpr ⟨q_2_12, List.forall_mem_cons.mpr ⟨q_2_14, fun _ h => absurd h List.not_mem_nil⟩⟩⟩⟩⟩⟩⟩⟩⟩⟩⟩
theorem inc_X0 {c : Cond} : ∀ x ∈ u_ws RX0 TX0 11, x ∈ c :: gT := fun x h => List.mem_cons_of_mem _ (in_X0 x h)
theorem in_X1 : ∀ x ∈ u_ws RX1 TX1 1, x ∈ gT := List.forall_mem_cons.mpr ⟨q_1_54, fun _ h => absurd h List.not_mem_nil⟩
theorem inc_X1 {c : Cond} : ∀ x ∈ u_ws RX1 TX1 1, x ∈ c :: gT := fun x h => List.mem_cons_of_mem _ (in_X1 x h)
theorem in_X2 : ∀ x ∈ u_ws RX2 TX2 4, x ∈ gT := List.forall_mem_cons.mpr ⟨q_1_68, List.forall_mem_cons.mpr ⟨q_1_70, List.forall_mem_cons.mpr ⟨q_1_72, List.forall_mem_cons.mpr ⟨q_1_74, fun _ h => absurd h List.not_mem_nil⟩⟩⟩⟩
theorem inc_X2 {c : Cond} : ∀ x ∈ u_ws RX2 TX2 4, x ∈ c :: gT := fun x h => List.mem_cons_of_mem _ (in_X2 x h)
theorem in_X3 : ∀ x ∈ u_ws RX3 TX3 6, x ∈ gT := List.forall_mem_cons.mpr ⟨q_1_89, List.forall_mem_cons.mpr ⟨q_1_91, List.forall_mem_cons.mpr ⟨q_1_93, List.forall_mem_cons.mpr ⟨q_1_95, List.forall_mem_cons.mpr ⟨q_1_97, List.forall_mem_cons.mpr ⟨q_1_99, fun _ h => absurd h List.not_mem_nil⟩⟩⟩⟩⟩⟩
theorem inc_X3 {c : Cond} : ∀ x ∈ u_ws RX3 TX3 6, x ∈ c :: gT := fun x h => List.mem_cons_of_mem _ (in_X3 x h)
theorem in_X4 : ∀ x ∈ u_ws RX4 TX4 3, x ∈ gT := List.forall_mem_cons.mpr ⟨q_1_111, List.forall_mem_cons.mpr ⟨q_1_113, List.forall_mem_cons.mpr ⟨q_1_115, fun _ h => absurd h List.not_mem_nil⟩⟩⟩
theorem inc_X4 {c : Cond} : ∀ x ∈ u_ws RX4 TX4 3, x ∈ c :: gT := fun x h => List.mem_cons_of_mem _ (in_X4 x h)
theorem in_X5 : ∀ x ∈ u_ws RX5 TX5 4, x ∈ gT := List.forall_mem_cons.mpr ⟨q_1_128, List.forall_mem_cons.mpr ⟨q_1_130, List.forall_mem_cons.mpr ⟨q_1_132, List.forall_mem_cons.mpr ⟨q_1_134, fun _ h => absurd h List.not_mem_nil⟩⟩⟩⟩
theorem inc_X5 {c : Cond} : ∀ x ∈ u_ws RX5 TX5 4, x ∈ c :: gT := fun x h => List.mem_cons_of_mem _ (in_X5 x h)
theorem in_X6 : ∀ x ∈ u_ws RX6 TX6 4, x ∈ gT := List.forall_mem_cons.mpr ⟨q_1_148, List.forall_mem_cons.mpr ⟨q_1_150, List.forall_mem_cons.mpr ⟨q_1_152, List.forall_mem_cons.mpr ⟨q_1_154, fun _ h => absurd h List.not_mem_nil⟩⟩⟩⟩
theorem inc_X6 {c : Cond} : ∀ x ∈ u_ws RX6 TX6 4, x ∈ c :: gT := fun x h => List.mem_cons_of_mem _ (in_X6 x h)
theorem in_X7 : ∀ x ∈ u_ws RX7 TX7 11, x ∈ gT := List.forall_mem_cons.mpr ⟨q_1_181, List.forall_mem_cons.mpr ⟨q_1_183, List.forall_mem_cons.mpr ⟨q_1_185, List.forall_mem_cons.mpr ⟨q_1_187, List.forall_mem_cons.mpr ⟨q_1_189, List.forall_mem_cons.mpr ⟨q_1_191, List.forall_mem_cons.mpr ⟨q_1_193, List.forall_mem_cons.mpr ⟨q_1_195, List.forall_mem_cons.mpr ⟨q_1_197, List.forall_mem_cons.mpr ⟨q_1_199, List.forall_mem_cons.mpr ⟨q_1_201, fun _ h => absurd h List.not_mem_nil⟩⟩⟩⟩⟩⟩⟩⟩⟩⟩⟩
theorem inc_X7 {c : Cond} : ∀ x ∈ u_ws RX7 TX7 11, x ∈ c :: gT := fun x h => List.mem_cons_of_mem _ (in_X7 x h)
theorem in_X8 : ∀ x ∈ u_ws RX8 TX8 3, x ∈ gT := List.forall_mem_cons.mpr ⟨q_1_216, List.forall_mem_cons.mpr ⟨q_1_218, List.forall_mem_cons.mpr ⟨q_1_220, fun _ h => absurd h List.not_mem_nil⟩⟩⟩
theorem inc_X8 {c : Cond} : ∀ x ∈ u_ws RX8 TX8 3, x ∈ c :: gT := fun x h => List.mem_cons_of_mem _ (in_X8 x h)
theorem in_X11 : ∀ x ∈ u_ws RX11 TX11 1, x ∈ gT := List.forall_mem_cons.mpr ⟨q_6_47, fun _ h => absurd h List.not_mem_nil⟩
theorem inc_X11 {c : Cond} : ∀ x ∈ u_ws RX11 TX11 1, x ∈ c :: gT := fun x h => List.mem_cons_of_mem _ (in_X11 x h)
theorem in_X12 : ∀ x ∈ u_ws RX12 TX12 33, x ∈ gT := List.forall_mem_cons.mpr ⟨q_6_145, List.forall_mem_cons.mpr ⟨q_6_147, List.forall_mem_cons.mpr ⟨q_6_149, List.forall_mem_cons.mpr ⟨q_6_151, List.forall_mem_cons.mpr ⟨q_6_153, List.forall_mem_cons.mpr ⟨q_6_155, List.forall_mem_cons.mpr ⟨q_6_157, List.forall_mem_cons.mpr ⟨q_6_159, List.forall_mem_cons.mpr ⟨q_6_161, List.forall_mem_cons.mpr ⟨q_6_163, List.forall_mem_cons.mpr ⟨q_6_165, List.forall_mem_cons.mpr ⟨q_6_167, List.forall_mem_cons.mpr ⟨q_6_169, List.forall_mem_cons.mpr ⟨q_6_171, List.forall_mem_cons.mpr ⟨q_6_173, List.forall_mem_cons.mpr ⟨q_6_175, List.forall_mem_cons.mpr ⟨q_6_177, List.forall_mem_cons.mpr ⟨q_6_179, List.forall_mem_cons.mpr ⟨q_6_181, List.forall_mem_cons.mpr ⟨q_6_183, List.forall_mem_cons.mpr ⟨q_6_185, List.forall_mem_cons.mpr ⟨q_6_187, List.forall_mem_cons.mpr ⟨q_6_189, List.forall_mem_cons.mpr ⟨q_6_191, List.forall_mem_cons.mpr ⟨q_6_193, List.forall_mem_cons.mpr ⟨q_6_195, List.forall_mem_cons.mpr ⟨q_6_197, List.forall_mem_cons.mpr ⟨q_6_199, List.forall_mem_cons.mpr ⟨q_6_201, List.forall_mem_cons.mpr ⟨q_6_203, List.forall_mem_cons.mpr ⟨q_6_205, List.forall_mem_cons.mpr ⟨q_6_207, List.forall_mem_cons.mpr ⟨q_6_209, fun _ h => absurd h List.not_mem_nil⟩⟩⟩⟩⟩⟩⟩⟩⟩⟩⟩⟩⟩⟩⟩⟩⟩⟩⟩⟩⟩⟩⟩⟩⟩⟩⟩⟩⟩⟩⟩⟩⟩
theorem inc_X12 {c : Cond} : ∀ x ∈ u_ws RX12 TX12 33, x ∈ c :: gT := fun x h => List.mem_cons_of_mem _ (in_X12 x h)
def wsX1_length : List Cond := .code yX1_length cX1_length 1 (some .int) :: gT
theorem hdX1_length : yX1_length.cls = RX1 ∧ yX1_length.cls ≠ "java/lang/invoke/MethodHandle" ∧ yX1_length.cls ≠ "java/lang/invoke/VarHandle" ∧ (parseMethodDescriptor yX1_length.desc).map (fun d => d.parameters.length) = some 0 := by decide +kernel
def wsX1_get : List Cond := .code yX1_get cX1_get 2 (some .int) :: gT
theorem hdX1_get : yX1_get.cls = RX1 ∧ yX1_get.cls ≠ "java/lang/invoke/MethodHandle" ∧ yX1_get.cls ≠ "java/lang/invoke/VarHandle" ∧ (parseMethodDescriptor yX1_get.desc).map (fun d => d.parameters.length) = some 1 := by decide +kernel
def wsX1_put : List Cond := .code yX1_put cX1_put 3 none :: gT
theorem hdX1_put : yX1_put.cls = RX1 ∧ yX1_put.cls ≠ "java/lang/invoke/MethodHandle" ∧ yX1_put.cls ≠ "java/lang/invoke/VarHandle" ∧ (parseMethodDescriptor yX1_put.desc).map (fun d => d.parameters.length) = some 2 := by decide +kernel
def wsX1_get2 : List Cond := .code yX1_get2 cX1_get2 2 (some .int) :: gT
theorem hdX1_get2 : yX1_get2.cls = RX1 ∧ yX1_get2.cls ≠ "java/lang/invoke/MethodHandle" ∧ yX1_get2.cls ≠ "java/lang/invoke/VarHandle" ∧ (parseMethodDescriptor yX1_get2.desc).map (fun d => d.parameters.length) = some 1 := by decide +kernel
def wsX1_put2 : List Cond := .code yX1_put2 cX1_put2 3 none :: gT
theorem hdX1_put2 : yX1_put2.cls = RX1 ∧ yX1_put2.cls ≠ "java/lang/invoke/MethodHandle" ∧ yX1_put2.cls ≠ "java/lang/invoke/VarHandle" ∧ (parseMethodDescriptor yX1_put2.desc).map (fun d => d.parameters.length) = some 2 := by decide +kernel
def wsX1_get4 : List Cond := .code yX1_get4 cX1_get4 2 (some .int) :: gT
theorem hdX1_get4 : yX1_get4.cls = RX1 ∧ yX1_get4.cls ≠ "java/lang/invoke/MethodHandle" ∧ yX1_get4.cls ≠ "java/lang/invoke/VarHandle" ∧ (parseMethodDescriptor yX1_get4.desc).map (fun d => d.parameters.length) = some 1 := by decide +kernel
def wsX1_put4 : List Cond := .code yX1_put4 cX1_put4 3 none :: gT
theorem hdX1_put4 : yX1_put4.cls = RX1 ∧ yX1_put4.cls ≠ "java/lang/invoke/MethodHandle" ∧ yX1_put4.cls ≠ "java/lang/invoke/VarHandle" ∧ (parseMethodDescriptor yX1_put4.desc).map (fun d => d.parameters.length) = some 2 := by decide +kernel
def wsJ2_rangeCheck : List Cond := .code yJ2_rangeCheck cJ2_rangeCheck 3 none :: gT
theorem hdJ2_rangeCheck : yJ2_rangeCheck.cls = RJ2 ∧ yJ2_rangeCheck.cls ≠ "java/lang/invoke/MethodHandle" ∧ yJ2_rangeCheck.cls ≠ "java/lang/invoke/VarHandle" ∧ (parseMethodDescriptor yJ2_rangeCheck.desc).map (fun d => d.parameters.length) = some 3 := by decide +kernel
def wsJ2_fill__ : List Cond := .code yJ2_fill__ cJ2_fill__ 5 none :: gT
theorem hdJ2_fill__ : yJ2_fill__.cls = RJ2 ∧ yJ2_fill__.cls ≠ "java/lang/invoke/MethodHandle" ∧ yJ2_fill__.cls ≠ "java/lang/invoke/VarHandle" ∧ (parseMethodDescriptor yJ2_fill__.desc).map (fun d => d.parameters.length) = some 4 := by decide +kernel
def wsX1_fill : List Cond := .code yX1_fill cX1_fill 4 none :: gT
theorem hdX1_fill : yX1_fill.cls = RX1 ∧ yX1_fill.cls ≠ "java/lang/invoke/MethodHandle" ∧ yX1_fill.cls ≠ "java/lang/invoke/VarHandle" ∧ (parseMethodDescriptor yX1_fill.desc).map (fun d => d.parameters.length) = some 3 := by decide +kernel
def wsX1_copy : List Cond := .code yX1_copy cX1_copy 4 none :: gT
theorem hdX1_copy : yX1_copy.cls = RX1 ∧ yX1_copy.cls ≠ "java/lang/invoke/MethodHandle" ∧ yX1_copy.cls ≠ "java/lang/invoke/VarHandle" ∧ (parseMethodDescriptor yX1_copy.desc).map (fun d => d.parameters.length) = some 3 := by decide +kernel
def wsX1_isZero : List Cond := .code yX1_isZero cX1_isZero 4 (some .boolean) :: gT
theorem hdX1_isZero : yX1_isZero.cls = RX1 ∧ yX1_isZero.cls ≠ "java/lang/invoke/MethodHandle" ∧ yX1_isZero.cls ≠ "java/lang/invoke/VarHandle" ∧ (parseMethodDescriptor yX1_isZero.desc).map (fun d => d.parameters.length) = some 2 := by decide +kernel
def wsX2_choose : List Cond := .code yX2_choose cX2_choose 7 (some .boolean) :: gT
theorem hdX2_choose : yX2_choose.cls = RX2 ∧ yX2_choose.cls ≠ "java/lang/invoke/MethodHandle" ∧ yX2_choose.cls ≠ "java/lang/invoke/VarHandle" ∧ (parseMethodDescriptor yX2_choose.desc).map (fun d => d.parameters.length) = some 2 := by decide +kernel
def wsX2_blocks : List Cond := .code yX2_blocks cX2_blocks 1 (some .int) :: gT
theorem hdX2_blocks : yX2_blocks.cls = RX2 ∧ yX2_blocks.cls ≠ "java/lang/invoke/MethodHandle" ∧ yX2_blocks.cls ≠ "java/lang/invoke/VarHandle" ∧ (parseMethodDescriptor yX2_blocks.desc).map (fun d => d.parameters.length) = some 0 := by decide +kernel
def wsX2_groups : List Cond := .code yX2_groups cX2_groups 1 (some .int) :: gT
theorem hdX2_groups : yX2_groups.cls = RX2 ∧ yX2_groups.cls ≠ "java/lang/invoke/MethodHandle" ∧ yX2_groups.cls ≠ "java/lang/invoke/VarHandle" ∧ (parseMethodDescriptor yX2_groups.desc).map (fun d => d.parameters.length) = some 0 := by decide +kernel
def wsX2_groupBlocks : List Cond := .code yX2_groupBlocks cX2_groupBlocks 1 (some .int) :: gT
theorem hdX2_groupBlocks : yX2_groupBlocks.cls = RX2 ∧ yX2_groupBlocks.cls ≠ "java/lang/invoke/MethodHandle" ∧ yX2_groupBlocks.cls ≠ "java/lang/invoke/VarHandle" ∧ (parseMethodDescriptor yX2_groupBlocks.desc).map (fun d => d.parameters.length) = some 0 := by decide +kernel
def wsX2_groupInodes : List Cond := .code yX2_groupInodes cX2_groupInodes 1 (some .int) :: gT
theorem hdX2_groupInodes : yX2_groupInodes.cls = RX2 ∧ yX2_groupInodes.cls ≠ "java/lang/invoke/MethodHandle" ∧ yX2_groupInodes.cls ≠ "java/lang/invoke/VarHandle" ∧ (parseMethodDescriptor yX2_groupInodes.desc).map (fun d => d.parameters.length) = some 0 := by decide +kernel
def wsX2_inodes : List Cond := .code yX2_inodes cX2_inodes 1 (some .int) :: gT
theorem hdX2_inodes : yX2_inodes.cls = RX2 ∧ yX2_inodes.cls ≠ "java/lang/invoke/MethodHandle" ∧ yX2_inodes.cls ≠ "java/lang/invoke/VarHandle" ∧ (parseMethodDescriptor yX2_inodes.desc).map (fun d => d.parameters.length) = some 0 := by decide +kernel
def wsX2_fixedBlocks : List Cond := .code yX2_fixedBlocks cX2_fixedBlocks 1 (some .int) :: gT
theorem hdX2_fixedBlocks : yX2_fixedBlocks.cls = RX2 ∧ yX2_fixedBlocks.cls ≠ "java/lang/invoke/MethodHandle" ∧ yX2_fixedBlocks.cls ≠ "java/lang/invoke/VarHandle" ∧ (parseMethodDescriptor yX2_fixedBlocks.desc).map (fun d => d.parameters.length) = some 0 := by decide +kernel
def wsX2_firstBlock : List Cond := .code yX2_firstBlock cX2_firstBlock 2 (some .int) :: gT
theorem hdX2_firstBlock : yX2_firstBlock.cls = RX2 ∧ yX2_firstBlock.cls ≠ "java/lang/invoke/MethodHandle" ∧ yX2_firstBlock.cls ≠ "java/lang/invoke/VarHandle" ∧ (parseMethodDescriptor yX2_firstBlock.desc).map (fun d => d.parameters.length) = some 1 := by decide +kernel
def wsX2_blocksIn : List Cond := .code yX2_blocksIn cX2_blocksIn 2 (some .int) :: gT
theorem hdX2_blocksIn : yX2_blocksIn.cls = RX2 ∧ yX2_blocksIn.cls ≠ "java/lang/invoke/MethodHandle" ∧ yX2_blocksIn.cls ≠ "java/lang/invoke/VarHandle" ∧ (parseMethodDescriptor yX2_blocksIn.desc).map (fun d => d.parameters.length) = some 1 := by decide +kernel
def wsX2_partAt : List Cond := .code yX2_partAt cX2_partAt 3 (some .int) :: gT
theorem hdX2_partAt : yX2_partAt.cls = RX2 ∧ yX2_partAt.cls ≠ "java/lang/invoke/MethodHandle" ∧ yX2_partAt.cls ≠ "java/lang/invoke/VarHandle" ∧ (parseMethodDescriptor yX2_partAt.desc).map (fun d => d.parameters.length) = some 2 := by decide +kernel
def wsX2_groupOfInode : List Cond := .code yX2_groupOfInode cX2_groupOfInode 2 (some .int) :: gT
theorem hdX2_groupOfInode : yX2_groupOfInode.cls = RX2 ∧ yX2_groupOfInode.cls ≠ "java/lang/invoke/MethodHandle" ∧ yX2_groupOfInode.cls ≠ "java/lang/invoke/VarHandle" ∧ (parseMethodDescriptor yX2_groupOfInode.desc).map (fun d => d.parameters.length) = some 1 := by decide +kernel
def wsX2_inodeAt : List Cond := .code yX2_inodeAt cX2_inodeAt 3 (some .int) :: gT
theorem hdX2_inodeAt : yX2_inodeAt.cls = RX2 ∧ yX2_inodeAt.cls ≠ "java/lang/invoke/MethodHandle" ∧ yX2_inodeAt.cls ≠ "java/lang/invoke/VarHandle" ∧ (parseMethodDescriptor yX2_inodeAt.desc).map (fun d => d.parameters.length) = some 1 := by decide +kernel
