def gT : List Cond := lw_tbl.filter goodWord
theorem gT_mem {w : Cond} (h : w ∈ lw_tbl) (hg : goodWord w = true) : w ∈ gT := List.mem_filter.mpr ⟨h, hg⟩
theorem gT_in {cx : Cond} {w : Cond} (h : w ∈ gT) : w ∈ cx :: gT ∧ ((w.onTables && w.keeps) = true ∨ ∃ ty, w = .arrayClass ty) := ⟨List.mem_cons_of_mem _ h, good_of_word (List.mem_filter.mp h).2⟩
theorem gT_I {cx cy : Cond} (h5 : cy ∈ gT) : GoodIn (cx :: gT) (cy :: gT) := fun w h => (List.mem_cons.mp h).elim (fun e => e ▸ gT_in h5) gT_in
theorem gT_V {cx cy : Cond} {own : String} {idx : Nat} {C : String} {y : MethodName} (h1 : Cond.methodLink own idx y ∈ gT) (h2 : Cond.instanceMethod y ∈ gT) (h3 : Cond.selects C y y ∈ gT) (h4 : Cond.initialized C ∈ gT) (h5 : cy ∈ gT) : GoodIn (cx :: gT) (wsV own idx C y (cy :: gT)) := fun w h => (List.mem_append.mp h).elim (fun h => gT_in ((List.forall_mem_cons.mpr ⟨h1, List.forall_mem_cons.mpr ⟨h2, List.forall_mem_cons.mpr ⟨h3, List.forall_mem_cons.mpr ⟨h4, fun _ h => absurd h List.not_mem_nil⟩⟩⟩⟩) w h)) (gT_I h5 w)
theorem gT_S {cx cy : Cond} {own : String} {idx : Nat} {y : MethodName} (h1 : Cond.methodLink own idx y ∈ gT) (h2 : Cond.static y ∈ gT) (h4 : Cond.initialized y.cls ∈ gT) (h5 : cy ∈ gT) : GoodIn (cx :: gT) (va_wsS own idx y (cy :: gT)) := fun w h => (List.mem_append.mp h).elim (fun h => gT_in ((List.forall_mem_cons.mpr ⟨h1, List.forall_mem_cons.mpr ⟨h2, List.forall_mem_cons.mpr ⟨h4, fun _ h => absurd h List.not_mem_nil⟩⟩⟩) w h)) (gT_I h5 w)
theorem gT_U {cx cy : Cond} {own : String} {idx : Nat} {C owner : String} {x y : MethodName} (h1 : Cond.methodLink own idx x ∈ gT) (h2 : Cond.sameMethod x.cls owner x.name x.desc ∈ gT) (h3 : Cond.selects C x y ∈ gT) (h4 : Cond.instanceMethod y ∈ gT) (h6 : Cond.initialized y.cls ∈ gT) (h5 : cy ∈ gT) : GoodIn (cx :: gT) (va_wsU own idx C owner x y (cy :: gT)) := fun w h => (List.mem_append.mp h).elim (fun h => gT_in ((List.forall_mem_cons.mpr ⟨h1, List.forall_mem_cons.mpr ⟨h2, List.forall_mem_cons.mpr ⟨h3, List.forall_mem_cons.mpr ⟨h4, List.forall_mem_cons.mpr ⟨h6, fun _ h => absurd h List.not_mem_nil⟩⟩⟩⟩⟩) w h)) (gT_I h5 w)
abbrev RX0 : String := "InodeDesk"
abbrev RX1 : String := "InodeDesk$Disk"
abbrev RX2 : String := "InodeDesk$Layout"
abbrev RX3 : String := "InodeDesk$Pool"
abbrev RX4 : String := "InodeDesk$Inodes"
abbrev RX5 : String := "InodeDesk$Listing"
abbrev RX6 : String := "InodeDesk$Heads"
abbrev RX7 : String := "InodeDesk$Checker"
abbrev RX8 : String := "InodeDesk$Tape"
abbrev RX9 : String := "InodeDesk$Source"
abbrev RX10 : String := "InodeDeskLaw"
abbrev RX11 : String := "InodeDesk$Pattern"
abbrev RX12 : String := "InodeDeskModel"
abbrev RJ0 : String := "java/lang/Object"
abbrev RJ1 : String := "java/lang/Math"
abbrev RJ2 : String := "java/util/Arrays"
abbrev RJ3 : String := "java/lang/Throwable"
abbrev RJ4 : String := "java/lang/StringBuilder"
abbrev RJ5 : String := "java/lang/AbstractStringBuilder"
abbrev RJ6 : String := "java/lang/StringUTF16"
abbrev RJ7 : String := "jdk/internal/util/ArraysSupport"
abbrev RJ8 : String := "java/lang/String"
abbrev RJ9 : String := "jdk/internal/util/Preconditions"
abbrev RJ10 : String := "java/lang/StringLatin1"
abbrev RJ11 : String := "java/lang/Integer"
abbrev RJ12 : String := "java/lang/IllegalArgumentException"
abbrev RJ13 : String := "java/lang/RuntimeException"
abbrev RJ14 : String := "java/lang/Exception"
abbrev RJ15 : String := "java/lang/ArrayIndexOutOfBoundsException"
abbrev RJ16 : String := "java/lang/IndexOutOfBoundsException"
abbrev RJ17 : String := "java/lang/IllegalStateException"
abbrev RJ18 : String := "java/lang/UnsupportedOperationException"
def TX0 : u_T := fun k => match k with
  | 0 => ("InodeDesk", "disk", "LInodeDesk$Disk;", true)
  | 1 => ("InodeDesk", "layout", "LInodeDesk$Layout;", true)
  | 2 => ("InodeDesk", "blockPool", "LInodeDesk$Pool;", true)
  | 3 => ("InodeDesk", "inodePool", "LInodeDesk$Pool;", true)
  | 4 => ("InodeDesk", "inodes", "LInodeDesk$Inodes;", true)
  | 5 => ("InodeDesk", "listing", "LInodeDesk$Listing;", true)
  | 6 => ("InodeDesk", "heads", "LInodeDesk$Heads;", true)
  | 7 => ("InodeDesk", "checker", "LInodeDesk$Checker;", true)
  | 8 => ("InodeDesk", "tape", "LInodeDesk$Tape;", true)
  | 9 => ("InodeDesk", "made", "Z", false)
  | _ => ("InodeDesk", "here", "I", false)
def tyX0 : Nat → FieldType := fun k => match k with
  | 0 => .object "InodeDesk$Disk"
  | 1 => .object "InodeDesk$Layout"
  | 2 => .object "InodeDesk$Pool"
  | 3 => .object "InodeDesk$Pool"
  | 4 => .object "InodeDesk$Inodes"
  | 5 => .object "InodeDesk$Listing"
  | 6 => .object "InodeDesk$Heads"
  | 7 => .object "InodeDesk$Checker"
  | 8 => .object "InodeDesk$Tape"
  | 9 => .boolean
  | _ => .int
theorem nmX0 : ∀ a, a < 11 → ∀ b, b < 11 → a ≠ b → (TX0 a).2.1 ≠ (TX0 b).2.1 := by decide +kernel
theorem tyX0_ok : ∀ k, k < 11 → parseFieldDescriptor (TX0 k).2.2.1 = some (tyX0 k) := by decide +kernel
def TX1 : u_T := fun k => match k with
  | _ => ("InodeDesk$Disk", "bytes", "[B", true)
def tyX1 : Nat → FieldType := fun k => match k with
  | _ => .array .byte
theorem nmX1 : ∀ a, a < 1 → ∀ b, b < 1 → a ≠ b → (TX1 a).2.1 ≠ (TX1 b).2.1 := by decide +kernel
theorem tyX1_ok : ∀ k, k < 1 → parseFieldDescriptor (TX1 k).2.2.1 = some (tyX1 k) := by decide +kernel
def TX2 : u_T := fun k => match k with
  | 0 => ("InodeDesk$Layout", "blocks", "I", true)
  | 1 => ("InodeDesk$Layout", "groupBlocks", "I", false)
  | 2 => ("InodeDesk$Layout", "groups", "I", false)
  | _ => ("InodeDesk$Layout", "groupInodes", "I", false)
def tyX2 : Nat → FieldType := fun k => match k with
  | 0 => .int
  | 1 => .int
  | 2 => .int
  | _ => .int
theorem nmX2 : ∀ a, a < 4 → ∀ b, b < 4 → a ≠ b → (TX2 a).2.1 ≠ (TX2 b).2.1 := by decide +kernel
theorem tyX2_ok : ∀ k, k < 4 → parseFieldDescriptor (TX2 k).2.2.1 = some (tyX2 k) := by decide +kernel
def TX3 : u_T := fun k => match k with
  | 0 => ("InodeDesk$Pool", "disk", "LInodeDesk$Disk;", true)
  | 1 => ("InodeDesk$Pool", "layout", "LInodeDesk$Layout;", true)
  | 2 => ("InodeDesk$Pool", "map", "I", true)
  | 3 => ("InodeDesk$Pool", "superCount", "I", true)
  | 4 => ("InodeDesk$Pool", "groupCount", "I", true)
  | _ => ("InodeDesk$Pool", "each", "I", false)
def tyX3 : Nat → FieldType := fun k => match k with
  | 0 => .object "InodeDesk$Disk"
  | 1 => .object "InodeDesk$Layout"
  | 2 => .int
  | 3 => .int
  | 4 => .int
  | _ => .int
theorem nmX3 : ∀ a, a < 6 → ∀ b, b < 6 → a ≠ b → (TX3 a).2.1 ≠ (TX3 b).2.1 := by decide +kernel
theorem tyX3_ok : ∀ k, k < 6 → parseFieldDescriptor (TX3 k).2.2.1 = some (tyX3 k) := by decide +kernel
def TX4 : u_T := fun k => match k with
  | 0 => ("InodeDesk$Inodes", "disk", "LInodeDesk$Disk;", true)
  | 1 => ("InodeDesk$Inodes", "layout", "LInodeDesk$Layout;", true)
  | _ => ("InodeDesk$Inodes", "blockPool", "LInodeDesk$Pool;", true)
def tyX4 : Nat → FieldType := fun k => match k with
  | 0 => .object "InodeDesk$Disk"
  | 1 => .object "InodeDesk$Layout"
  | _ => .object "InodeDesk$Pool"
theorem nmX4 : ∀ a, a < 3 → ∀ b, b < 3 → a ≠ b → (TX4 a).2.1 ≠ (TX4 b).2.1 := by decide +kernel
theorem tyX4_ok : ∀ k, k < 3 → parseFieldDescriptor (TX4 k).2.2.1 = some (tyX4 k) := by decide +kernel
def TX5 : u_T := fun k => match k with
  | 0 => ("InodeDesk$Listing", "disk", "LInodeDesk$Disk;", true)
  | 1 => ("InodeDesk$Listing", "inodes", "LInodeDesk$Inodes;", true)
  | 2 => ("InodeDesk$Listing", "entries", "[I", true)
  | _ => ("InodeDesk$Listing", "count", "I", false)
def tyX5 : Nat → FieldType := fun k => match k with
  | 0 => .object "InodeDesk$Disk"
  | 1 => .object "InodeDesk$Inodes"
  | 2 => .array .int
  | _ => .int
theorem nmX5 : ∀ a, a < 4 → ∀ b, b < 4 → a ≠ b → (TX5 a).2.1 ≠ (TX5 b).2.1 := by decide +kernel
theorem tyX5_ok : ∀ k, k < 4 → parseFieldDescriptor (TX5 k).2.2.1 = some (tyX5 k) := by decide +kernel
def TX6 : u_T := fun k => match k with
  | 0 => ("InodeDesk$Heads", "layout", "LInodeDesk$Layout;", true)
  | 1 => ("InodeDesk$Heads", "blockPool", "LInodeDesk$Pool;", true)
  | 2 => ("InodeDesk$Heads", "inodePool", "LInodeDesk$Pool;", true)
  | _ => ("InodeDesk$Heads", "inodes", "LInodeDesk$Inodes;", true)
def tyX6 : Nat → FieldType := fun k => match k with
  | 0 => .object "InodeDesk$Layout"
  | 1 => .object "InodeDesk$Pool"
  | 2 => .object "InodeDesk$Pool"
  | _ => .object "InodeDesk$Inodes"
theorem nmX6 : ∀ a, a < 4 → ∀ b, b < 4 → a ≠ b → (TX6 a).2.1 ≠ (TX6 b).2.1 := by decide +kernel
theorem tyX6_ok : ∀ k, k < 4 → parseFieldDescriptor (TX6 k).2.2.1 = some (tyX6 k) := by decide +kernel
def TX7 : u_T := fun k => match k with
  | 0 => ("InodeDesk$Checker", "disk", "LInodeDesk$Disk;", true)
  | 1 => ("InodeDesk$Checker", "layout", "LInodeDesk$Layout;", true)
  | 2 => ("InodeDesk$Checker", "blockPool", "LInodeDesk$Pool;", true)
  | 3 => ("InodeDesk$Checker", "inodePool", "LInodeDesk$Pool;", true)
  | 4 => ("InodeDesk$Checker", "inodes", "LInodeDesk$Inodes;", true)
  | 5 => ("InodeDesk$Checker", "listing", "LInodeDesk$Listing;", true)
  | 6 => ("InodeDesk$Checker", "heads", "LInodeDesk$Heads;", true)
  | 7 => ("InodeDesk$Checker", "draft", "LInodeDesk$Disk;", true)
  | 8 => ("InodeDesk$Checker", "claimed", "[B", true)
  | 9 => ("InodeDesk$Checker", "holders", "[I", true)
  | _ => ("InodeDesk$Checker", "parents", "[I", true)
def tyX7 : Nat → FieldType := fun k => match k with
  | 0 => .object "InodeDesk$Disk"
  | 1 => .object "InodeDesk$Layout"
  | 2 => .object "InodeDesk$Pool"
  | 3 => .object "InodeDesk$Pool"
  | 4 => .object "InodeDesk$Inodes"
  | 5 => .object "InodeDesk$Listing"
  | 6 => .object "InodeDesk$Heads"
  | 7 => .object "InodeDesk$Disk"
  | 8 => .array .byte
  | 9 => .array .int
  | _ => .array .int
theorem nmX7 : ∀ a, a < 11 → ∀ b, b < 11 → a ≠ b → (TX7 a).2.1 ≠ (TX7 b).2.1 := by decide +kernel
theorem tyX7_ok : ∀ k, k < 11 → parseFieldDescriptor (TX7 k).2.2.1 = some (tyX7 k) := by decide +kernel
def TX8 : u_T := fun k => match k with
  | 0 => ("InodeDesk$Tape", "bytes", "[B", true)
  | 1 => ("InodeDesk$Tape", "ready", "[B", true)
  | _ => ("InodeDesk$Tape", "length", "I", false)
def tyX8 : Nat → FieldType := fun k => match k with
  | 0 => .array .byte
  | 1 => .array .byte
  | _ => .int
theorem nmX8 : ∀ a, a < 3 → ∀ b, b < 3 → a ≠ b → (TX8 a).2.1 ≠ (TX8 b).2.1 := by decide +kernel
theorem tyX8_ok : ∀ k, k < 3 → parseFieldDescriptor (TX8 k).2.2.1 = some (tyX8 k) := by decide +kernel
def TX11 : u_T := fun k => match k with
  | _ => ("InodeDesk$Pattern", "seed", "I", true)
def tyX11 : Nat → FieldType := fun k => match k with
  | _ => .int
theorem nmX11 : ∀ a, a < 1 → ∀ b, b < 1 → a ≠ b → (TX11 a).2.1 ≠ (TX11 b).2.1 := by decide +kernel
theorem tyX11_ok : ∀ k, k < 1 → parseFieldDescriptor (TX11 k).2.2.1 = some (tyX11 k) := by decide +kernel
def TX12 : u_T := fun k => match k with
  | 0 => ("InodeDeskModel", "thrown", "I", false)
  | 1 => ("InodeDeskModel", "blocks", "I", true)
  | 2 => ("InodeDeskModel", "data", "[B", true)
  | 3 => ("InodeDeskModel", "image", "[B", true)
  | 4 => ("InodeDeskModel", "tape", "[B", true)
  | 5 => ("InodeDeskModel", "ready", "[B", true)
  | 6 => ("InodeDeskModel", "taped", "I", false)
  | 7 => ("InodeDeskModel", "made", "Z", false)
  | 8 => ("InodeDeskModel", "shown", "Z", false)
  | 9 => ("InodeDeskModel", "p", "I", false)
  | 10 => ("InodeDeskModel", "g", "I", false)
  | 11 => ("InodeDeskModel", "j", "I", false)
  | 12 => ("InodeDeskModel", "q", "I", false)
  | 13 => ("InodeDeskModel", "id", "I", false)
  | 14 => ("InodeDeskModel", "used", "[Z", true)
  | 15 => ("InodeDeskModel", "next", "[I", true)
  | 16 => ("InodeDeskModel", "kind", "[I", true)
  | 17 => ("InodeDeskModel", "size", "[I", true)
  | 18 => ("InodeDeskModel", "links", "[I", true)
  | 19 => ("InodeDeskModel", "many", "[I", true)
  | 20 => ("InodeDeskModel", "first", "[I", true)
  | 21 => ("InodeDeskModel", "last", "[I", true)
  | 22 => ("InodeDeskModel", "single", "[I", true)
  | 23 => ("InodeDeskModel", "twofold", "[I", true)
  | 24 => ("InodeDeskModel", "far", "[I", true)
  | 25 => ("InodeDeskModel", "parent", "[I", true)
  | 26 => ("InodeDeskModel", "time", "[J", true)
  | 27 => ("InodeDeskModel", "here", "I", false)
  | 28 => ("InodeDeskModel", "found", "I", false)
  | 29 => ("InodeDeskModel", "before", "I", false)
  | 30 => ("InodeDeskModel", "name", "[I", true)
  | 31 => ("InodeDeskModel", "length", "I", false)
  | _ => ("InodeDeskModel", "seen", "I", false)
def tyX12 : Nat → FieldType := fun k => match k with
  | 0 => .int
  | 1 => .int
  | 2 => .array .byte
  | 3 => .array .byte
  | 4 => .array .byte
  | 5 => .array .byte
  | 6 => .int
  | 7 => .boolean
  | 8 => .boolean
  | 9 => .int
  | 10 => .int
  | 11 => .int
  | 12 => .int
  | 13 => .int
  | 14 => .array .boolean
  | 15 => .array .int
  | 16 => .array .int
  | 17 => .array .int
  | 18 => .array .int
  | 19 => .array .int
  | 20 => .array .int
  | 21 => .array .int
  | 22 => .array .int
  | 23 => .array .int
  | 24 => .array .int
  | 25 => .array .int
  | 26 => .array .long
  | 27 => .int
  | 28 => .int
  | 29 => .int
  | 30 => .array .int
  | 31 => .int
  | _ => .int
theorem nmX12 : ∀ a, a < 33 → ∀ b, b < 33 → a ≠ b → (TX12 a).2.1 ≠ (TX12 b).2.1 := by decide +kernel
theorem tyX12_ok : ∀ k, k < 33 → parseFieldDescriptor (TX12 k).2.2.1 = some (tyX12 k) := by decide +kernel
abbrev vwCl : List vw_C := [(RX0, TX0, 11), (RX1, TX1, 1), (RX2, TX2, 4), (RX3, TX3, 6), (RX4, TX4, 3), (RX5, TX5, 4), (RX6, TX6, 4), (RX7, TX7, 11), (RX8, TX8, 3), (RX11, TX11, 1), (RX12, TX12, 33)]
abbrev yX0_init : MethodName := ⟨RX0, "<init>", "(I)V"⟩
abbrev yX1_init : MethodName := ⟨RX1, "<init>", "(I)V"⟩
abbrev yX2_init : MethodName := ⟨RX2, "<init>", "(I)V"⟩
abbrev yX3_init : MethodName := ⟨RX3, "<init>", "(LInodeDesk$Disk;LInodeDesk$Layout;I)V"⟩
abbrev yX4_init : MethodName := ⟨RX4, "<init>", "(LInodeDesk$Disk;LInodeDesk$Layout;LInodeDesk$Pool;)V"⟩
abbrev yX5_init : MethodName := ⟨RX5, "<init>", "(LInodeDesk$Disk;LInodeDesk$Inodes;)V"⟩
abbrev yX6_init : MethodName := ⟨RX6, "<init>", "(LInodeDesk$Layout;LInodeDesk$Pool;LInodeDesk$Pool;LInodeDesk$Inodes;)V"⟩
abbrev yX7_init : MethodName := ⟨RX7, "<init>", "(LInodeDesk$Disk;LInodeDesk$Layout;LInodeDesk$Pool;LInodeDesk$Pool;LInodeDesk$Inodes;LInodeDesk$Listing;LInodeDesk$Heads;)V"⟩
abbrev yX2_blocks : MethodName := ⟨RX2, "blocks", "()I"⟩
abbrev yX8_init : MethodName := ⟨RX8, "<init>", "()V"⟩
abbrev yX9_init : MethodName := ⟨RX9, "<init>", "()V"⟩
abbrev yX0_feed : MethodName := ⟨RX0, "feed", "(IIIII)V"⟩
abbrev yX8_prepare : MethodName := ⟨RX8, "prepare", "(II)V"⟩
abbrev yX0_end : MethodName := ⟨RX0, "end", "(I)I"⟩
abbrev yX8_bring : MethodName := ⟨RX8, "bring", "(I)I"⟩
abbrev yX0_byteAt : MethodName := ⟨RX0, "byteAt", "(I)I"⟩
abbrev yX1_length : MethodName := ⟨RX1, "length", "()I"⟩
abbrev yX3_isUsed : MethodName := ⟨RX3, "isUsed", "(I)Z"⟩
abbrev yX2_partAt : MethodName := ⟨RX2, "partAt", "(II)I"⟩
abbrev yX1_get : MethodName := ⟨RX1, "get", "(I)I"⟩
abbrev yX0_fault : MethodName := ⟨RX0, "fault", "()I"⟩
abbrev yX7_allHolds : MethodName := ⟨RX7, "allHolds", "(I)Z"⟩
abbrev yX7_claimFixed : MethodName := ⟨RX7, "claimFixed", "()V"⟩
abbrev yX2_groups : MethodName := ⟨RX2, "groups", "()I"⟩
abbrev yX2_fixedBlocks : MethodName := ⟨RX2, "fixedBlocks", "()I"⟩
abbrev yX2_firstBlock : MethodName := ⟨RX2, "firstBlock", "(I)I"⟩
abbrev yX7_claim : MethodName := ⟨RX7, "claim", "(I)Z"⟩
abbrev yX7_inodesHold : MethodName := ⟨RX7, "inodesHold", "()Z"⟩
abbrev yX2_inodes : MethodName := ⟨RX2, "inodes", "()I"⟩
abbrev yX2_inodeAt : MethodName := ⟨RX2, "inodeAt", "(I)I"⟩
abbrev yX7_inodeHolds : MethodName := ⟨RX7, "inodeHolds", "(I)Z"⟩
abbrev yX1_get2 : MethodName := ⟨RX1, "get2", "(I)I"⟩
abbrev yX1_get4 : MethodName := ⟨RX1, "get4", "(I)I"⟩
abbrev yX4_blocksFor : MethodName := ⟨RX4, "blocksFor", "(I)I"⟩
abbrev yX1_isZero : MethodName := ⟨RX1, "isZero", "(II)Z"⟩
abbrev yX4_withIndirect : MethodName := ⟨RX4, "withIndirect", "(I)I"⟩
abbrev yX7_pointersHold : MethodName := ⟨RX7, "pointersHold", "(II)Z"⟩
abbrev yX7_rowHolds : MethodName := ⟨RX7, "rowHolds", "(III)Z"⟩
abbrev yX7_directoriesHold : MethodName := ⟨RX7, "directoriesHold", "()Z"⟩
abbrev yX4_isDirectory : MethodName := ⟨RX4, "isDirectory", "(I)Z"⟩
abbrev yX5_read : MethodName := ⟨RX5, "read", "(I)V"⟩
abbrev yX4_size : MethodName := ⟨RX4, "size", "(I)I"⟩
abbrev yX4_blockOf : MethodName := ⟨RX4, "blockOf", "(II)I"⟩
abbrev yX4_pointerAt : MethodName := ⟨RX4, "pointerAt", "(II)I"⟩
abbrev yX7_dotsHold : MethodName := ⟨RX7, "dotsHold", "(I)Z"⟩
abbrev yX5_count : MethodName := ⟨RX5, "count", "()I"⟩
abbrev yX7_entryHolds : MethodName := ⟨RX7, "entryHolds", "(I)Z"⟩
abbrev yX5_entryAt : MethodName := ⟨RX5, "entryAt", "(I)I"⟩
abbrev yX5_lengthOf : MethodName := ⟨RX5, "lengthOf", "(I)I"⟩
abbrev yX5_inodeOf : MethodName := ⟨RX5, "inodeOf", "(I)I"⟩
abbrev yX5_usedBy : MethodName := ⟨RX5, "usedBy", "(I)I"⟩
abbrev yX5_spaceFor : MethodName := ⟨RX5, "spaceFor", "(I)I"⟩
abbrev yX5_nameLengthOf : MethodName := ⟨RX5, "nameLengthOf", "(I)I"⟩
abbrev yX5_letterOf : MethodName := ⟨RX5, "letterOf", "(II)I"⟩
abbrev yX5_parent : MethodName := ⟨RX5, "parent", "()I"⟩
abbrev yX7_itemsHold : MethodName := ⟨RX7, "itemsHold", "(I)Z"⟩
abbrev yX7_nameHolds : MethodName := ⟨RX7, "nameHolds", "(I)Z"⟩
abbrev yX7_sameName : MethodName := ⟨RX7, "sameName", "(II)Z"⟩
abbrev yX7_hold : MethodName := ⟨RX7, "hold", "(II)Z"⟩
abbrev yX4_links : MethodName := ⟨RX4, "links", "(I)I"⟩
abbrev yX7_treeHolds : MethodName := ⟨RX7, "treeHolds", "()Z"⟩
abbrev yX7_holderOf : MethodName := ⟨RX7, "holderOf", "(I)I"⟩
abbrev yX7_parentHolds : MethodName := ⟨RX7, "parentHolds", "(I)Z"⟩
abbrev yX7_parentOf : MethodName := ⟨RX7, "parentOf", "(I)I"⟩
abbrev yX7_mapsHold : MethodName := ⟨RX7, "mapsHold", "()Z"⟩
abbrev yX3_tailHolds : MethodName := ⟨RX3, "tailHolds", "(I)Z"⟩
abbrev yX3_realIn : MethodName := ⟨RX3, "realIn", "(I)I"⟩
abbrev yX2_blocksIn : MethodName := ⟨RX2, "blocksIn", "(I)I"⟩
abbrev yX2_groupInodes : MethodName := ⟨RX2, "groupInodes", "()I"⟩
abbrev yX7_headsHold : MethodName := ⟨RX7, "headsHold", "()Z"⟩
abbrev yX1_fill : MethodName := ⟨RX1, "fill", "(III)V"⟩
abbrev yX6_sketch : MethodName := ⟨RX6, "sketch", "(LInodeDesk$Disk;II)V"⟩
abbrev yX3_freeIn : MethodName := ⟨RX3, "freeIn", "(I)I"⟩
abbrev yX6_describe : MethodName := ⟨RX6, "describe", "(LInodeDesk$Disk;II)V"⟩
abbrev yX1_put4 : MethodName := ⟨RX1, "put4", "(II)V"⟩
abbrev yX1_put2 : MethodName := ⟨RX1, "put2", "(II)V"⟩
abbrev yX4_directoriesIn : MethodName := ⟨RX4, "directoriesIn", "(I)I"⟩
abbrev yX2_groupBlocks : MethodName := ⟨RX2, "groupBlocks", "()I"⟩
abbrev yX0_many : MethodName := ⟨RX0, "many", "(I)I"⟩
abbrev yX3_free : MethodName := ⟨RX3, "free", "()I"⟩
abbrev yX10_cell : MethodName := ⟨RX10, "cell", "([II)I"⟩
abbrev yX10_format : MethodName := ⟨RX10, "format", "(LInodeDesk;III[J)I"⟩
abbrev yX0_format : MethodName := ⟨RX0, "format", "(III)I"⟩
abbrev yX2_choose : MethodName := ⟨RX2, "choose", "(II)Z"⟩
abbrev yX3_lay : MethodName := ⟨RX3, "lay", "()V"⟩
abbrev yX1_put : MethodName := ⟨RX1, "put", "(II)V"⟩
abbrev yX6_lay : MethodName := ⟨RX6, "lay", "(LInodeDesk$Disk;I)V"⟩
abbrev yX1_copy : MethodName := ⟨RX1, "copy", "(III)V"⟩
abbrev yX3_take : MethodName := ⟨RX3, "take", "()I"⟩
abbrev yX3_lowestClear : MethodName := ⟨RX3, "lowestClear", "(I)I"⟩
abbrev yX3_mark : MethodName := ⟨RX3, "mark", "(IZ)V"⟩
abbrev yX4_begin : MethodName := ⟨RX4, "begin", "(IZ)V"⟩
abbrev yX4_countDirectories : MethodName := ⟨RX4, "countDirectories", "(II)V"⟩
abbrev yX2_groupOfInode : MethodName := ⟨RX2, "groupOfInode", "(I)I"⟩
abbrev yX4_addDirectoryBlock : MethodName := ⟨RX4, "addDirectoryBlock", "(I)I"⟩
abbrev yX4_addBlock : MethodName := ⟨RX4, "addBlock", "(II)V"⟩
abbrev yX4_gain : MethodName := ⟨RX4, "gain", "(II)V"⟩
abbrev yX4_beginsRow : MethodName := ⟨RX4, "beginsRow", "(I)Z"⟩
abbrev yX4_rowPointerAt : MethodName := ⟨RX4, "rowPointerAt", "(II)I"⟩
abbrev yX4_setSize : MethodName := ⟨RX4, "setSize", "(II)V"⟩
abbrev yX5_layDots : MethodName := ⟨RX5, "layDots", "(III)V"⟩
abbrev yX10_items : MethodName := ⟨RX10, "items", "(LInodeDesk;[J)I"⟩
abbrev yX0_items : MethodName := ⟨RX0, "items", "()I"⟩
abbrev yX0_needVolume : MethodName := ⟨RX0, "needVolume", "()V"⟩
abbrev yX5_itemCount : MethodName := ⟨RX5, "itemCount", "()I"⟩
abbrev yX10_letter : MethodName := ⟨RX10, "letter", "(LInodeDesk;II[J)I"⟩
abbrev yX0_letter : MethodName := ⟨RX0, "letter", "(II)I"⟩
abbrev yX0_itemHere : MethodName := ⟨RX0, "itemHere", "(I)I"⟩
abbrev yX5_placeOf : MethodName := ⟨RX5, "placeOf", "(I)I"⟩
abbrev yX10_about : MethodName := ⟨RX10, "about", "(LInodeDesk;II[J)I"⟩
abbrev yX0_about : MethodName := ⟨RX0, "about", "(II)J"⟩
abbrev yX4_time : MethodName := ⟨RX4, "time", "(II)J"⟩
abbrev yX10_content : MethodName := ⟨RX10, "content", "(LInodeDesk;II[J)I"⟩
abbrev yX0_content : MethodName := ⟨RX0, "content", "(II)I"⟩
abbrev yX10_enter : MethodName := ⟨RX10, "enter", "(LInodeDesk;I[J)I"⟩
abbrev yX0_enter : MethodName := ⟨RX0, "enter", "(I)I"⟩
abbrev yX10_up : MethodName := ⟨RX10, "up", "(LInodeDesk;[J)I"⟩
abbrev yX0_up : MethodName := ⟨RX0, "up", "()Z"⟩
abbrev yX10_make : MethodName := ⟨RX10, "make", "(LInodeDesk;Z[J)I"⟩
abbrev yX0_make : MethodName := ⟨RX0, "make", "(Z)I"⟩
abbrev yX8_drain : MethodName := ⟨RX8, "drain", "()I"⟩
abbrev yX8_isName : MethodName := ⟨RX8, "isName", "(I)Z"⟩
abbrev yX8_valueAt : MethodName := ⟨RX8, "valueAt", "(I)I"⟩
abbrev yX5_has : MethodName := ⟨RX5, "has", "(LInodeDesk$Source;I)Z"⟩
abbrev yX5_isNamed : MethodName := ⟨RX5, "isNamed", "(ILInodeDesk$Source;I)Z"⟩
abbrev yX11_valueAt : MethodName := ⟨RX11, "valueAt", "(I)I"⟩
abbrev yX5_roomFor : MethodName := ⟨RX5, "roomFor", "(I)I"⟩
abbrev yX4_costOf : MethodName := ⟨RX4, "costOf", "(II)I"⟩
abbrev yX5_open : MethodName := ⟨RX5, "open", "(I)I"⟩
abbrev yX5_split : MethodName := ⟨RX5, "split", "(I)I"⟩
abbrev yX5_fillEntry : MethodName := ⟨RX5, "fillEntry", "(IIZLInodeDesk$Source;I)V"⟩
abbrev yX4_addLinks : MethodName := ⟨RX4, "addLinks", "(II)V"⟩
abbrev yX5_numberOf : MethodName := ⟨RX5, "numberOf", "(I)I"⟩
abbrev yX10_write : MethodName := ⟨RX10, "write", "(LInodeDesk;I[J)I"⟩
abbrev yX0_write : MethodName := ⟨RX0, "write", "(I)I"⟩
abbrev yX0_fileAt : MethodName := ⟨RX0, "fileAt", "(I)I"⟩
abbrev yX0_needBlocks : MethodName := ⟨RX0, "needBlocks", "(I)V"⟩
abbrev yX4_append : MethodName := ⟨RX4, "append", "(ILInodeDesk$Source;I)I"⟩
abbrev yX10_grow : MethodName := ⟨RX10, "grow", "(LInodeDesk;III[J)I"⟩
abbrev yX0_grow : MethodName := ⟨RX0, "grow", "(III)I"⟩
abbrev yX11_init : MethodName := ⟨RX11, "<init>", "(I)V"⟩
abbrev yX10_cut : MethodName := ⟨RX10, "cut", "(LInodeDesk;II[J)I"⟩
abbrev yX0_cut : MethodName := ⟨RX0, "cut", "(II)I"⟩
abbrev yX4_shorten : MethodName := ⟨RX4, "shorten", "(II)I"⟩
abbrev yX4_dropBlock : MethodName := ⟨RX4, "dropBlock", "(II)V"⟩
abbrev yX4_lose : MethodName := ⟨RX4, "lose", "(II)V"⟩
abbrev yX3_giveBack : MethodName := ⟨RX3, "giveBack", "(I)V"⟩
abbrev yX10_remove : MethodName := ⟨RX10, "remove", "(LInodeDesk;I)I"⟩
abbrev yX0_remove : MethodName := ⟨RX0, "remove", "(I)V"⟩
abbrev yX5_drop : MethodName := ⟨RX5, "drop", "(I)V"⟩
abbrev yX4_erase : MethodName := ⟨RX4, "erase", "(I)V"⟩
abbrev yX10_stamp : MethodName := ⟨RX10, "stamp", "(LInodeDesk;IIJ)I"⟩
abbrev yX0_stamp : MethodName := ⟨RX0, "stamp", "(IIJ)V"⟩
abbrev yX4_setTime : MethodName := ⟨RX4, "setTime", "(IIJ)V"⟩
abbrev yX12_init : MethodName := ⟨RX12, "<init>", "(I)V"⟩
abbrev yX12_thrown : MethodName := ⟨RX12, "thrown", "()I"⟩
abbrev yX12_feed : MethodName := ⟨RX12, "feed", "(IIIII)V"⟩
abbrev yX12_end : MethodName := ⟨RX12, "end", "(I)I"⟩
abbrev yX12_format : MethodName := ⟨RX12, "format", "(III)I"⟩
abbrev yX12_parts : MethodName := ⟨RX12, "parts", "(II)I"⟩
abbrev yX12_isFixed : MethodName := ⟨RX12, "isFixed", "(I)Z"⟩
abbrev yX12_clear : MethodName := ⟨RX12, "clear", "(I)V"⟩
abbrev yX12_folder : MethodName := ⟨RX12, "folder", "(I)V"⟩
abbrev yX12_gain : MethodName := ⟨RX12, "gain", "(I)V"⟩
abbrev yX12_take : MethodName := ⟨RX12, "take", "()I"⟩
abbrev yX12_entry : MethodName := ⟨RX12, "entry", "(IIII)V"⟩
abbrev yX12_set : MethodName := ⟨RX12, "set", "(III)V"⟩
abbrev yX12_freeBlocks : MethodName := ⟨RX12, "freeBlocks", "()I"⟩
abbrev yX12_byteAt : MethodName := ⟨RX12, "byteAt", "(I)I"⟩
abbrev yX12_show : MethodName := ⟨RX12, "show", "()V"⟩
abbrev yX12_showGroup : MethodName := ⟨RX12, "showGroup", "(I)V"⟩
abbrev yX12_begin : MethodName := ⟨RX12, "begin", "(I)I"⟩
abbrev yX12_room : MethodName := ⟨RX12, "room", "(I)I"⟩
abbrev yX12_put : MethodName := ⟨RX12, "put", "(IIJ)V"⟩
abbrev yX12_freeInodes : MethodName := ⟨RX12, "freeInodes", "()I"⟩
abbrev yX12_showInode : MethodName := ⟨RX12, "showInode", "(I)V"⟩
abbrev yX12_inodeAt : MethodName := ⟨RX12, "inodeAt", "(I)I"⟩
abbrev yX12_all : MethodName := ⟨RX12, "all", "(I)I"⟩
abbrev yX12_fault : MethodName := ⟨RX12, "fault", "()I"⟩
abbrev yX12_many : MethodName := ⟨RX12, "many", "(I)I"⟩
abbrev yX12_items : MethodName := ⟨RX12, "items", "()I"⟩
abbrev yX12_none : MethodName := ⟨RX12, "none", "()Z"⟩
abbrev yX12_fails : MethodName := ⟨RX12, "fails", "(ZI)Z"⟩
abbrev yX12_count : MethodName := ⟨RX12, "count", "(I)I"⟩
abbrev yX12_finds : MethodName := ⟨RX12, "finds", "(II)Z"⟩
abbrev yX12_four : MethodName := ⟨RX12, "four", "(I)I"⟩
abbrev yX12_two : MethodName := ⟨RX12, "two", "(I)I"⟩
abbrev yX12_one : MethodName := ⟨RX12, "one", "(I)I"⟩
abbrev yX12_letter : MethodName := ⟨RX12, "letter", "(II)I"⟩
abbrev yX12_no : MethodName := ⟨RX12, "no", "(I)Z"⟩
abbrev yX12_about : MethodName := ⟨RX12, "about", "(II)J"⟩
abbrev yX12_content : MethodName := ⟨RX12, "content", "(II)I"⟩
abbrev yX12_blockOf : MethodName := ⟨RX12, "blockOf", "(II)I"⟩
abbrev yX12_enter : MethodName := ⟨RX12, "enter", "(I)I"⟩
abbrev yX12_up : MethodName := ⟨RX12, "up", "()Z"⟩
abbrev yX12_make : MethodName := ⟨RX12, "make", "(Z)I"⟩
abbrev yX12_named : MethodName := ⟨RX12, "named", "()Z"⟩
abbrev yX12_isTaken : MethodName := ⟨RX12, "isTaken", "()Z"⟩
abbrev yX12_spot : MethodName := ⟨RX12, "spot", "()I"⟩
abbrev yX12_uses : MethodName := ⟨RX12, "uses", "(I)I"⟩
abbrev yX12_write : MethodName := ⟨RX12, "write", "(I)I"⟩
abbrev yX12_noFile : MethodName := ⟨RX12, "noFile", "(IZ)Z"⟩
abbrev yX12_append : MethodName := ⟨RX12, "append", "(IIZI)I"⟩
abbrev yX12_grow : MethodName := ⟨RX12, "grow", "(III)I"⟩
abbrev yX12_cut : MethodName := ⟨RX12, "cut", "(II)I"⟩
abbrev yX12_keep : MethodName := ⟨RX12, "keep", "(II)V"⟩
abbrev yX12_remove : MethodName := ⟨RX12, "remove", "(I)V"⟩
abbrev yX12_stamp : MethodName := ⟨RX12, "stamp", "(IIJ)V"⟩
abbrev yJ2_fill : MethodName := ⟨RJ2, "fill", "([BB)V"⟩
abbrev yJ2_rangeCheck : MethodName := ⟨RJ2, "rangeCheck", "(III)V"⟩
abbrev yJ2_fill__ : MethodName := ⟨RJ2, "fill", "([BIIB)V"⟩
abbrev yJ11_bitCount : MethodName := ⟨RJ11, "bitCount", "(I)I"⟩
abbrev yJ2_fill_ : MethodName := ⟨RJ2, "fill", "([II)V"⟩
theorem q_1_231 : (.fieldLink RX0 85 "InodeDesk" "tape" "LInodeDesk$Tape;" : Cond) ∈ gT := gT_mem (List.mem_append_right _ (List.mem_append_left _ (List.mem_of_getElem? (l := tables_1_1) (i := 231) rfl))) rfl
theorem q_1_214 : (.fieldLink RX8 15 "InodeDesk$Tape" "ready" "[B" : Cond) ∈ gT := gT_mem (List.mem_append_right _ (List.mem_append_left _ (List.mem_of_getElem? (l := tables_1_1) (i := 214) rfl))) rfl
theorem q_2_24 : (.code yX8_prepare cX8_prepare 5 none : Cond) ∈ gT := gT_mem (List.mem_append_right _ (List.mem_append_right _ (List.mem_append_left _ (List.mem_of_getElem? (l := tables_1_2) (i := 24) rfl)))) rfl
theorem q_2_21 : (.methodLink RX0 93 yX8_prepare : Cond) ∈ gT := gT_mem (List.mem_append_right _ (List.mem_append_right _ (List.mem_append_left _ (List.mem_of_getElem? (l := tables_1_2) (i := 21) rfl)))) rfl
theorem q_2_22 : (.instanceMethod yX8_prepare : Cond) ∈ gT := gT_mem (List.mem_append_right _ (List.mem_append_right _ (List.mem_append_left _ (List.mem_of_getElem? (l := tables_1_2) (i := 22) rfl)))) rfl
theorem q_2_23 : (.selects RX8 yX8_prepare yX8_prepare : Cond) ∈ gT := gT_mem (List.mem_append_right _ (List.mem_append_right _ (List.mem_append_left _ (List.mem_of_getElem? (l := tables_1_2) (i := 23) rfl)))) rfl
theorem q_1_11 : (.initialized RX8 : Cond) ∈ gT := gT_mem (List.mem_append_right _ (List.mem_append_left _ (List.mem_of_getElem? (l := tables_1_1) (i := 11) rfl))) rfl
theorem q_1_213 : (.fieldLink RX8 9 "InodeDesk$Tape" "bytes" "[B" : Cond) ∈ gT := gT_mem (List.mem_append_right _ (List.mem_append_left _ (List.mem_of_getElem? (l := tables_1_1) (i := 213) rfl))) rfl
theorem q_1_215 : (.fieldLink RX8 18 "InodeDesk$Tape" "length" "I" : Cond) ∈ gT := gT_mem (List.mem_append_right _ (List.mem_append_left _ (List.mem_of_getElem? (l := tables_1_1) (i := 215) rfl))) rfl
theorem q_2_38 : (.code yJ2_fill cJ2_fill 4 none : Cond) ∈ gT := gT_mem (List.mem_append_right _ (List.mem_append_right _ (List.mem_append_left _ (List.mem_of_getElem? (l := tables_1_2) (i := 38) rfl)))) rfl
theorem q_2_36 : (.methodLink RX8 28 yJ2_fill : Cond) ∈ gT := gT_mem (List.mem_append_right _ (List.mem_append_right _ (List.mem_append_left _ (List.mem_of_getElem? (l := tables_1_2) (i := 36) rfl)))) rfl
theorem q_2_37 : (.static yJ2_fill : Cond) ∈ gT := gT_mem (List.mem_append_right _ (List.mem_append_right _ (List.mem_append_left _ (List.mem_of_getElem? (l := tables_1_2) (i := 37) rfl)))) rfl
theorem q_1_14 : (.initialized RJ2 : Cond) ∈ gT := gT_mem (List.mem_append_right _ (List.mem_append_left _ (List.mem_of_getElem? (l := tables_1_1) (i := 14) rfl))) rfl
theorem q_2_33 : (.methodLink RX8 22 arraycopyName : Cond) ∈ gT := gT_mem (List.mem_append_right _ (List.mem_append_right _ (List.mem_append_left _ (List.mem_of_getElem? (l := tables_1_2) (i := 33) rfl)))) rfl
theorem q_2_35 : (.native arraycopyName : Cond) ∈ gT := gT_mem (List.mem_append_right _ (List.mem_append_right _ (List.mem_append_left _ (List.mem_of_getElem? (l := tables_1_2) (i := 35) rfl)))) rfl
theorem q_2_34 : (.static arraycopyName : Cond) ∈ gT := gT_mem (List.mem_append_right _ (List.mem_append_right _ (List.mem_append_left _ (List.mem_of_getElem? (l := tables_1_2) (i := 34) rfl)))) rfl
theorem q_1_13 : (.initialized "java/lang/System" : Cond) ∈ gT := gT_mem (List.mem_append_right _ (List.mem_append_left _ (List.mem_of_getElem? (l := tables_1_1) (i := 13) rfl))) rfl
theorem q_2_32 : (.code yX8_bring cX8_bring 2 (some .int) : Cond) ∈ gT := gT_mem (List.mem_append_right _ (List.mem_append_right _ (List.mem_append_left _ (List.mem_of_getElem? (l := tables_1_2) (i := 32) rfl)))) rfl
theorem q_2_29 : (.methodLink RX0 97 yX8_bring : Cond) ∈ gT := gT_mem (List.mem_append_right _ (List.mem_append_right _ (List.mem_append_left _ (List.mem_of_getElem? (l := tables_1_2) (i := 29) rfl)))) rfl
theorem q_2_30 : (.instanceMethod yX8_bring : Cond) ∈ gT := gT_mem (List.mem_append_right _ (List.mem_append_right _ (List.mem_append_left _ (List.mem_of_getElem? (l := tables_1_2) (i := 30) rfl)))) rfl
theorem q_2_31 : (.selects RX8 yX8_bring yX8_bring : Cond) ∈ gT := gT_mem (List.mem_append_right _ (List.mem_append_right _ (List.mem_append_left _ (List.mem_of_getElem? (l := tables_1_2) (i := 31) rfl)))) rfl
theorem q_1_224 : (.fieldLink RX0 30 "InodeDesk" "layout" "LInodeDesk$Layout;" : Cond) ∈ gT := gT_mem (List.mem_append_right _ (List.mem_append_left _ (List.mem_of_getElem? (l := tables_1_1) (i := 224) rfl))) rfl
theorem q_1_64 : (.fieldLink RX2 9 "InodeDesk$Layout" "blocks" "I" : Cond) ∈ gT := gT_mem (List.mem_append_right _ (List.mem_append_left _ (List.mem_of_getElem? (l := tables_1_1) (i := 64) rfl))) rfl
theorem q_1_65 : (.fieldLink RX2 15 "InodeDesk$Layout" "groupBlocks" "I" : Cond) ∈ gT := gT_mem (List.mem_append_right _ (List.mem_append_left _ (List.mem_of_getElem? (l := tables_1_1) (i := 65) rfl))) rfl
theorem q_1_66 : (.fieldLink RX2 18 "InodeDesk$Layout" "groups" "I" : Cond) ∈ gT := gT_mem (List.mem_append_right _ (List.mem_append_left _ (List.mem_of_getElem? (l := tables_1_1) (i := 66) rfl))) rfl
theorem q_1_67 : (.fieldLink RX2 21 "InodeDesk$Layout" "groupInodes" "I" : Cond) ∈ gT := gT_mem (List.mem_append_right _ (List.mem_append_left _ (List.mem_of_getElem? (l := tables_1_1) (i := 67) rfl))) rfl
theorem q_4_205 : (.code yX2_choose cX2_choose 7 (some .boolean) : Cond) ∈ gT := gT_mem (List.mem_append_right _ (List.mem_append_right _ (List.mem_append_right _ (List.mem_append_right _ (List.mem_append_left _ (List.mem_of_getElem? (l := tables_1_4) (i := 205) rfl)))))) rfl
theorem q_4_202 : (.methodLink RX0 101 yX2_choose : Cond) ∈ gT := gT_mem (List.mem_append_right _ (List.mem_append_right _ (List.mem_append_right _ (List.mem_append_right _ (List.mem_append_left _ (List.mem_of_getElem? (l := tables_1_4) (i := 202) rfl)))))) rfl
theorem q_4_203 : (.instanceMethod yX2_choose : Cond) ∈ gT := gT_mem (List.mem_append_right _ (List.mem_append_right _ (List.mem_append_right _ (List.mem_append_right _ (List.mem_append_left _ (List.mem_of_getElem? (l := tables_1_4) (i := 203) rfl)))))) rfl
theorem q_4_204 : (.selects RX2 yX2_choose yX2_choose : Cond) ∈ gT := gT_mem (List.mem_append_right _ (List.mem_append_right _ (List.mem_append_right _ (List.mem_append_right _ (List.mem_append_left _ (List.mem_of_getElem? (l := tables_1_4) (i := 204) rfl)))))) rfl
theorem q_1_4 : (.initialized RX2 : Cond) ∈ gT := gT_mem (List.mem_append_right _ (List.mem_append_left _ (List.mem_of_getElem? (l := tables_1_1) (i := 4) rfl))) rfl
theorem q_1_223 : (.fieldLink RX0 23 "InodeDesk" "disk" "LInodeDesk$Disk;" : Cond) ∈ gT := gT_mem (List.mem_append_right _ (List.mem_append_left _ (List.mem_of_getElem? (l := tables_1_1) (i := 223) rfl))) rfl
theorem q_1_53 : (.fieldLink RX1 15 "InodeDesk$Disk" "bytes" "[B" : Cond) ∈ gT := gT_mem (List.mem_append_right _ (List.mem_append_left _ (List.mem_of_getElem? (l := tables_1_1) (i := 53) rfl))) rfl
theorem q_2_46 : (.code yX1_length cX1_length 1 (some .int) : Cond) ∈ gT := gT_mem (List.mem_append_right _ (List.mem_append_right _ (List.mem_append_left _ (List.mem_of_getElem? (l := tables_1_2) (i := 46) rfl)))) rfl
theorem q_2_43 : (.methodLink RX0 112 yX1_length : Cond) ∈ gT := gT_mem (List.mem_append_right _ (List.mem_append_right _ (List.mem_append_left _ (List.mem_of_getElem? (l := tables_1_2) (i := 43) rfl)))) rfl
theorem q_2_44 : (.instanceMethod yX1_length : Cond) ∈ gT := gT_mem (List.mem_append_right _ (List.mem_append_right _ (List.mem_append_left _ (List.mem_of_getElem? (l := tables_1_2) (i := 44) rfl)))) rfl
theorem q_2_45 : (.selects RX1 yX1_length yX1_length : Cond) ∈ gT := gT_mem (List.mem_append_right _ (List.mem_append_right _ (List.mem_append_left _ (List.mem_of_getElem? (l := tables_1_2) (i := 45) rfl)))) rfl
theorem q_1_3 : (.initialized RX1 : Cond) ∈ gT := gT_mem (List.mem_append_right _ (List.mem_append_left _ (List.mem_of_getElem? (l := tables_1_1) (i := 3) rfl))) rfl
theorem q_3_50 : (.code yJ2_rangeCheck cJ2_rangeCheck 3 none : Cond) ∈ gT := gT_mem (List.mem_append_right _ (List.mem_append_right _ (List.mem_append_right _ (List.mem_append_left _ (List.mem_of_getElem? (l := tables_1_3) (i := 50) rfl))))) rfl
theorem q_3_48 : (.methodLink RJ2 13 yJ2_rangeCheck : Cond) ∈ gT := gT_mem (List.mem_append_right _ (List.mem_append_right _ (List.mem_append_right _ (List.mem_append_left _ (List.mem_of_getElem? (l := tables_1_3) (i := 48) rfl))))) rfl
theorem q_3_49 : (.static yJ2_rangeCheck : Cond) ∈ gT := gT_mem (List.mem_append_right _ (List.mem_append_right _ (List.mem_append_right _ (List.mem_append_left _ (List.mem_of_getElem? (l := tables_1_3) (i := 49) rfl))))) rfl
theorem q_3_47 : (.code yJ2_fill__ cJ2_fill__ 5 none : Cond) ∈ gT := gT_mem (List.mem_append_right _ (List.mem_append_right _ (List.mem_append_right _ (List.mem_append_left _ (List.mem_of_getElem? (l := tables_1_3) (i := 47) rfl))))) rfl
theorem q_3_45 : (.methodLink RX1 21 yJ2_fill__ : Cond) ∈ gT := gT_mem (List.mem_append_right _ (List.mem_append_right _ (List.mem_append_right _ (List.mem_append_left _ (List.mem_of_getElem? (l := tables_1_3) (i := 45) rfl))))) rfl
theorem q_3_46 : (.static yJ2_fill__ : Cond) ∈ gT := gT_mem (List.mem_append_right _ (List.mem_append_right _ (List.mem_append_right _ (List.mem_append_left _ (List.mem_of_getElem? (l := tables_1_3) (i := 46) rfl))))) rfl
theorem q_3_44 : (.code yX1_fill cX1_fill 4 none : Cond) ∈ gT := gT_mem (List.mem_append_right _ (List.mem_append_right _ (List.mem_append_right _ (List.mem_append_left _ (List.mem_of_getElem? (l := tables_1_3) (i := 44) rfl))))) rfl
theorem q_4_209 : (.methodLink RX0 116 yX1_fill : Cond) ∈ gT := gT_mem (List.mem_append_right _ (List.mem_append_right _ (List.mem_append_right _ (List.mem_append_right _ (List.mem_append_left _ (List.mem_of_getElem? (l := tables_1_4) (i := 209) rfl)))))) rfl
theorem q_3_42 : (.instanceMethod yX1_fill : Cond) ∈ gT := gT_mem (List.mem_append_right _ (List.mem_append_right _ (List.mem_append_right _ (List.mem_append_left _ (List.mem_of_getElem? (l := tables_1_3) (i := 42) rfl))))) rfl
theorem q_3_43 : (.selects RX1 yX1_fill yX1_fill : Cond) ∈ gT := gT_mem (List.mem_append_right _ (List.mem_append_right _ (List.mem_append_right _ (List.mem_append_left _ (List.mem_of_getElem? (l := tables_1_3) (i := 43) rfl))))) rfl
theorem q_1_225 : (.fieldLink RX0 39 "InodeDesk" "blockPool" "LInodeDesk$Pool;" : Cond) ∈ gT := gT_mem (List.mem_append_right _ (List.mem_append_left _ (List.mem_of_getElem? (l := tables_1_1) (i := 225) rfl))) rfl
theorem q_1_85 : (.fieldLink RX3 19 "InodeDesk$Pool" "map" "I" : Cond) ∈ gT := gT_mem (List.mem_append_right _ (List.mem_append_left _ (List.mem_of_getElem? (l := tables_1_1) (i := 85) rfl))) rfl
theorem q_1_84 : (.fieldLink RX3 15 "InodeDesk$Pool" "layout" "LInodeDesk$Layout;" : Cond) ∈ gT := gT_mem (List.mem_append_right _ (List.mem_append_left _ (List.mem_of_getElem? (l := tables_1_1) (i := 84) rfl))) rfl
theorem q_4_174 : (.code yX2_groupBlocks cX2_groupBlocks 1 (some .int) : Cond) ∈ gT := gT_mem (List.mem_append_right _ (List.mem_append_right _ (List.mem_append_right _ (List.mem_append_right _ (List.mem_append_left _ (List.mem_of_getElem? (l := tables_1_4) (i := 174) rfl)))))) rfl
theorem q_4_214 : (.methodLink RX3 39 yX2_groupBlocks : Cond) ∈ gT := gT_mem (List.mem_append_right _ (List.mem_append_right _ (List.mem_append_right _ (List.mem_append_right _ (List.mem_append_left _ (List.mem_of_getElem? (l := tables_1_4) (i := 214) rfl)))))) rfl
theorem q_4_172 : (.instanceMethod yX2_groupBlocks : Cond) ∈ gT := gT_mem (List.mem_append_right _ (List.mem_append_right _ (List.mem_append_right _ (List.mem_append_right _ (List.mem_append_left _ (List.mem_of_getElem? (l := tables_1_4) (i := 172) rfl)))))) rfl
theorem q_4_173 : (.selects RX2 yX2_groupBlocks yX2_groupBlocks : Cond) ∈ gT := gT_mem (List.mem_append_right _ (List.mem_append_right _ (List.mem_append_right _ (List.mem_append_right _ (List.mem_append_left _ (List.mem_of_getElem? (l := tables_1_4) (i := 173) rfl)))))) rfl
theorem q_1_88 : (.fieldLink RX3 42 "InodeDesk$Pool" "each" "I" : Cond) ∈ gT := gT_mem (List.mem_append_right _ (List.mem_append_left _ (List.mem_of_getElem? (l := tables_1_1) (i := 88) rfl))) rfl
theorem q_2_80 : (.code yX2_fixedBlocks cX2_fixedBlocks 1 (some .int) : Cond) ∈ gT := gT_mem (List.mem_append_right _ (List.mem_append_right _ (List.mem_append_left _ (List.mem_of_getElem? (l := tables_1_2) (i := 80) rfl)))) rfl
theorem q_4_215 : (.methodLink RX3 45 yX2_fixedBlocks : Cond) ∈ gT := gT_mem (List.mem_append_right _ (List.mem_append_right _ (List.mem_append_right _ (List.mem_append_right _ (List.mem_append_left _ (List.mem_of_getElem? (l := tables_1_4) (i := 215) rfl)))))) rfl
theorem q_2_78 : (.instanceMethod yX2_fixedBlocks : Cond) ∈ gT := gT_mem (List.mem_append_right _ (List.mem_append_right _ (List.mem_append_left _ (List.mem_of_getElem? (l := tables_1_2) (i := 78) rfl)))) rfl
theorem q_2_79 : (.selects RX2 yX2_fixedBlocks yX2_fixedBlocks : Cond) ∈ gT := gT_mem (List.mem_append_right _ (List.mem_append_right _ (List.mem_append_left _ (List.mem_of_getElem? (l := tables_1_2) (i := 79) rfl)))) rfl
theorem q_2_76 : (.code yX2_groups cX2_groups 1 (some .int) : Cond) ∈ gT := gT_mem (List.mem_append_right _ (List.mem_append_right _ (List.mem_append_left _ (List.mem_of_getElem? (l := tables_1_2) (i := 76) rfl)))) rfl
theorem q_4_216 : (.methodLink RX3 48 yX2_groups : Cond) ∈ gT := gT_mem (List.mem_append_right _ (List.mem_append_right _ (List.mem_append_right _ (List.mem_append_right _ (List.mem_append_left _ (List.mem_of_getElem? (l := tables_1_4) (i := 216) rfl)))))) rfl
theorem q_2_74 : (.instanceMethod yX2_groups : Cond) ∈ gT := gT_mem (List.mem_append_right _ (List.mem_append_right _ (List.mem_append_left _ (List.mem_of_getElem? (l := tables_1_2) (i := 74) rfl)))) rfl
theorem q_2_75 : (.selects RX2 yX2_groups yX2_groups : Cond) ∈ gT := gT_mem (List.mem_append_right _ (List.mem_append_right _ (List.mem_append_left _ (List.mem_of_getElem? (l := tables_1_2) (i := 75) rfl)))) rfl
theorem q_2_54 : (.code yX2_partAt cX2_partAt 3 (some .int) : Cond) ∈ gT := gT_mem (List.mem_append_right _ (List.mem_append_right _ (List.mem_append_left _ (List.mem_of_getElem? (l := tables_1_2) (i := 54) rfl)))) rfl
theorem q_2_51 : (.methodLink RX3 51 yX2_partAt : Cond) ∈ gT := gT_mem (List.mem_append_right _ (List.mem_append_right _ (List.mem_append_left _ (List.mem_of_getElem? (l := tables_1_2) (i := 51) rfl)))) rfl
theorem q_2_52 : (.instanceMethod yX2_partAt : Cond) ∈ gT := gT_mem (List.mem_append_right _ (List.mem_append_right _ (List.mem_append_left _ (List.mem_of_getElem? (l := tables_1_2) (i := 52) rfl)))) rfl
theorem q_2_53 : (.selects RX2 yX2_partAt yX2_partAt : Cond) ∈ gT := gT_mem (List.mem_append_right _ (List.mem_append_right _ (List.mem_append_left _ (List.mem_of_getElem? (l := tables_1_2) (i := 53) rfl)))) rfl
theorem q_1_83 : (.fieldLink RX3 9 "InodeDesk$Pool" "disk" "LInodeDesk$Disk;" : Cond) ∈ gT := gT_mem (List.mem_append_right _ (List.mem_append_left _ (List.mem_of_getElem? (l := tables_1_1) (i := 83) rfl))) rfl
theorem q_4_217 : (.methodLink RX3 55 yX1_fill : Cond) ∈ gT := gT_mem (List.mem_append_right _ (List.mem_append_right _ (List.mem_append_right _ (List.mem_append_right _ (List.mem_append_left _ (List.mem_of_getElem? (l := tables_1_4) (i := 217) rfl)))))) rfl
theorem q_2_84 : (.code yX2_firstBlock cX2_firstBlock 2 (some .int) : Cond) ∈ gT := gT_mem (List.mem_append_right _ (List.mem_append_right _ (List.mem_append_left _ (List.mem_of_getElem? (l := tables_1_2) (i := 84) rfl)))) rfl
theorem q_3_31 : (.methodLink RX2 24 yX2_firstBlock : Cond) ∈ gT := gT_mem (List.mem_append_right _ (List.mem_append_right _ (List.mem_append_right _ (List.mem_append_left _ (List.mem_of_getElem? (l := tables_1_3) (i := 31) rfl))))) rfl
theorem q_2_82 : (.instanceMethod yX2_firstBlock : Cond) ∈ gT := gT_mem (List.mem_append_right _ (List.mem_append_right _ (List.mem_append_left _ (List.mem_of_getElem? (l := tables_1_2) (i := 82) rfl)))) rfl
theorem q_2_83 : (.selects RX2 yX2_firstBlock yX2_firstBlock : Cond) ∈ gT := gT_mem (List.mem_append_right _ (List.mem_append_right _ (List.mem_append_left _ (List.mem_of_getElem? (l := tables_1_2) (i := 83) rfl)))) rfl
theorem q_3_32 : (.methodLink RX2 28 Lib.Math.min.name : Cond) ∈ gT := gT_mem (List.mem_append_right _ (List.mem_append_right _ (List.mem_append_right _ (List.mem_append_left _ (List.mem_of_getElem? (l := tables_1_3) (i := 32) (by decide +kernel)))))) rfl
theorem q_1_41 : (.static Lib.Math.min.name : Cond) ∈ gT := gT_mem (List.mem_append_right _ (List.mem_append_left _ (List.mem_of_getElem? (l := tables_1_1) (i := 41) (by decide +kernel)))) rfl
theorem q_1_2 : (.initialized "java/lang/Math" : Cond) ∈ gT := gT_mem (List.mem_append_right _ (List.mem_append_left _ (List.mem_of_getElem? (l := tables_1_1) (i := 2) rfl))) rfl
theorem q_1_42 : (.code Lib.Math.min.name Lib.Math.min.code 2 (some .int) : Cond) ∈ gT := gT_mem (List.mem_append_right _ (List.mem_append_left _ (List.mem_of_getElem? (l := tables_1_1) (i := 42) (by decide +kernel)))) rfl
theorem q_3_30 : (.code yX2_blocksIn cX2_blocksIn 2 (some .int) : Cond) ∈ gT := gT_mem (List.mem_append_right _ (List.mem_append_right _ (List.mem_append_right _ (List.mem_append_left _ (List.mem_of_getElem? (l := tables_1_3) (i := 30) rfl))))) rfl
theorem q_3_27 : (.methodLink RX3 29 yX2_blocksIn : Cond) ∈ gT := gT_mem (List.mem_append_right _ (List.mem_append_right _ (List.mem_append_right _ (List.mem_append_left _ (List.mem_of_getElem? (l := tables_1_3) (i := 27) rfl))))) rfl
theorem q_3_28 : (.instanceMethod yX2_blocksIn : Cond) ∈ gT := gT_mem (List.mem_append_right _ (List.mem_append_right _ (List.mem_append_right _ (List.mem_append_left _ (List.mem_of_getElem? (l := tables_1_3) (i := 28) rfl))))) rfl
theorem q_3_29 : (.selects RX2 yX2_blocksIn yX2_blocksIn : Cond) ∈ gT := gT_mem (List.mem_append_right _ (List.mem_append_right _ (List.mem_append_right _ (List.mem_append_left _ (List.mem_of_getElem? (l := tables_1_3) (i := 29) rfl))))) rfl
theorem q_3_26 : (.code yX3_realIn cX3_realIn 2 (some .int) : Cond) ∈ gT := gT_mem (List.mem_append_right _ (List.mem_append_right _ (List.mem_append_right _ (List.mem_append_left _ (List.mem_of_getElem? (l := tables_1_3) (i := 26) rfl))))) rfl
theorem q_3_23 : (.methodLink RX3 61 yX3_realIn : Cond) ∈ gT := gT_mem (List.mem_append_right _ (List.mem_append_right _ (List.mem_append_right _ (List.mem_append_left _ (List.mem_of_getElem? (l := tables_1_3) (i := 23) rfl))))) rfl
theorem q_3_25 : (.instanceMethod yX3_realIn : Cond) ∈ gT := gT_mem (List.mem_append_right _ (List.mem_append_right _ (List.mem_append_right _ (List.mem_append_left _ (List.mem_of_getElem? (l := tables_1_3) (i := 25) rfl))))) rfl
theorem qp_19 : (.selects RX3 yX3_realIn yX3_realIn : Cond) ∈ gT := gT_mem (List.mem_append_left _ (List.mem_of_getElem? (l := k2_sels lw_privs) (i := 19) rfl)) rfl
theorem q_1_5 : (.initialized RX3 : Cond) ∈ gT := gT_mem (List.mem_append_right _ (List.mem_append_left _ (List.mem_of_getElem? (l := tables_1_1) (i := 5) rfl))) rfl
theorem q_2_58 : (.code yX1_get cX1_get 2 (some .int) : Cond) ∈ gT := gT_mem (List.mem_append_right _ (List.mem_append_right _ (List.mem_append_left _ (List.mem_of_getElem? (l := tables_1_2) (i := 58) rfl)))) rfl
theorem q_2_55 : (.methodLink RX3 64 yX1_get : Cond) ∈ gT := gT_mem (List.mem_append_right _ (List.mem_append_right _ (List.mem_append_left _ (List.mem_of_getElem? (l := tables_1_2) (i := 55) rfl)))) rfl
theorem q_2_56 : (.instanceMethod yX1_get : Cond) ∈ gT := gT_mem (List.mem_append_right _ (List.mem_append_right _ (List.mem_append_left _ (List.mem_of_getElem? (l := tables_1_2) (i := 56) rfl)))) rfl
theorem q_2_57 : (.selects RX1 yX1_get yX1_get : Cond) ∈ gT := gT_mem (List.mem_append_right _ (List.mem_append_right _ (List.mem_append_left _ (List.mem_of_getElem? (l := tables_1_2) (i := 57) rfl)))) rfl
theorem q_4_221 : (.code yX1_put cX1_put 3 none : Cond) ∈ gT := gT_mem (List.mem_append_right _ (List.mem_append_right _ (List.mem_append_right _ (List.mem_append_right _ (List.mem_append_left _ (List.mem_of_getElem? (l := tables_1_4) (i := 221) rfl)))))) rfl
theorem q_4_218 : (.methodLink RX3 67 yX1_put : Cond) ∈ gT := gT_mem (List.mem_append_right _ (List.mem_append_right _ (List.mem_append_right _ (List.mem_append_right _ (List.mem_append_left _ (List.mem_of_getElem? (l := tables_1_4) (i := 218) rfl)))))) rfl
theorem q_4_219 : (.instanceMethod yX1_put : Cond) ∈ gT := gT_mem (List.mem_append_right _ (List.mem_append_right _ (List.mem_append_right _ (List.mem_append_right _ (List.mem_append_left _ (List.mem_of_getElem? (l := tables_1_4) (i := 219) rfl)))))) rfl
theorem q_4_220 : (.selects RX1 yX1_put yX1_put : Cond) ∈ gT := gT_mem (List.mem_append_right _ (List.mem_append_right _ (List.mem_append_right _ (List.mem_append_right _ (List.mem_append_left _ (List.mem_of_getElem? (l := tables_1_4) (i := 220) rfl)))))) rfl
theorem q_4_213 : (.code yX3_lay cX3_lay 5 none : Cond) ∈ gT := gT_mem (List.mem_append_right _ (List.mem_append_right _ (List.mem_append_right _ (List.mem_append_right _ (List.mem_append_left _ (List.mem_of_getElem? (l := tables_1_4) (i := 213) rfl)))))) rfl
theorem q_4_210 : (.methodLink RX0 120 yX3_lay : Cond) ∈ gT := gT_mem (List.mem_append_right _ (List.mem_append_right _ (List.mem_append_right _ (List.mem_append_right _ (List.mem_append_left _ (List.mem_of_getElem? (l := tables_1_4) (i := 210) rfl)))))) rfl
theorem q_4_211 : (.instanceMethod yX3_lay : Cond) ∈ gT := gT_mem (List.mem_append_right _ (List.mem_append_right _ (List.mem_append_right _ (List.mem_append_right _ (List.mem_append_left _ (List.mem_of_getElem? (l := tables_1_4) (i := 211) rfl)))))) rfl
theorem q_4_212 : (.selects RX3 yX3_lay yX3_lay : Cond) ∈ gT := gT_mem (List.mem_append_right _ (List.mem_append_right _ (List.mem_append_right _ (List.mem_append_right _ (List.mem_append_left _ (List.mem_of_getElem? (l := tables_1_4) (i := 212) rfl)))))) rfl
theorem q_1_226 : (.fieldLink RX0 43 "InodeDesk" "inodePool" "LInodeDesk$Pool;" : Cond) ∈ gT := gT_mem (List.mem_append_right _ (List.mem_append_left _ (List.mem_of_getElem? (l := tables_1_1) (i := 226) rfl))) rfl
theorem q_3_36 : (.code yX2_groupInodes cX2_groupInodes 1 (some .int) : Cond) ∈ gT := gT_mem (List.mem_append_right _ (List.mem_append_right _ (List.mem_append_right _ (List.mem_append_left _ (List.mem_of_getElem? (l := tables_1_3) (i := 36) rfl))))) rfl
theorem q_3_33 : (.methodLink RX3 35 yX2_groupInodes : Cond) ∈ gT := gT_mem (List.mem_append_right _ (List.mem_append_right _ (List.mem_append_right _ (List.mem_append_left _ (List.mem_of_getElem? (l := tables_1_3) (i := 33) rfl))))) rfl
theorem q_3_34 : (.instanceMethod yX2_groupInodes : Cond) ∈ gT := gT_mem (List.mem_append_right _ (List.mem_append_right _ (List.mem_append_right _ (List.mem_append_left _ (List.mem_of_getElem? (l := tables_1_3) (i := 34) rfl))))) rfl
theorem q_3_35 : (.selects RX2 yX2_groupInodes yX2_groupInodes : Cond) ∈ gT := gT_mem (List.mem_append_right _ (List.mem_append_right _ (List.mem_append_right _ (List.mem_append_left _ (List.mem_of_getElem? (l := tables_1_3) (i := 35) rfl))))) rfl
theorem q_1_229 : (.fieldLink RX0 69 "InodeDesk" "heads" "LInodeDesk$Heads;" : Cond) ∈ gT := gT_mem (List.mem_append_right _ (List.mem_append_left _ (List.mem_of_getElem? (l := tables_1_1) (i := 229) rfl))) rfl
theorem q_1_144 : (.fieldLink RX6 9 "InodeDesk$Heads" "layout" "LInodeDesk$Layout;" : Cond) ∈ gT := gT_mem (List.mem_append_right _ (List.mem_append_left _ (List.mem_of_getElem? (l := tables_1_1) (i := 144) rfl))) rfl
theorem q_4_139 : (.methodLink RX6 30 yX2_groups : Cond) ∈ gT := gT_mem (List.mem_append_right _ (List.mem_append_right _ (List.mem_append_right _ (List.mem_append_right _ (List.mem_append_left _ (List.mem_of_getElem? (l := tables_1_4) (i := 139) rfl)))))) rfl
theorem q_2_99 : (.code yX2_inodes cX2_inodes 1 (some .int) : Cond) ∈ gT := gT_mem (List.mem_append_right _ (List.mem_append_right _ (List.mem_append_left _ (List.mem_of_getElem? (l := tables_1_2) (i := 99) rfl)))) rfl
theorem q_4_169 : (.methodLink RX6 59 yX2_inodes : Cond) ∈ gT := gT_mem (List.mem_append_right _ (List.mem_append_right _ (List.mem_append_right _ (List.mem_append_right _ (List.mem_append_left _ (List.mem_of_getElem? (l := tables_1_4) (i := 169) rfl)))))) rfl
theorem q_2_97 : (.instanceMethod yX2_inodes : Cond) ∈ gT := gT_mem (List.mem_append_right _ (List.mem_append_right _ (List.mem_append_left _ (List.mem_of_getElem? (l := tables_1_2) (i := 97) rfl)))) rfl
theorem q_2_98 : (.selects RX2 yX2_inodes yX2_inodes : Cond) ∈ gT := gT_mem (List.mem_append_right _ (List.mem_append_right _ (List.mem_append_left _ (List.mem_of_getElem? (l := tables_1_2) (i := 98) rfl)))) rfl
theorem q_4_158 : (.code yX1_put4 cX1_put4 3 none : Cond) ∈ gT := gT_mem (List.mem_append_right _ (List.mem_append_right _ (List.mem_append_right _ (List.mem_append_right _ (List.mem_append_left _ (List.mem_of_getElem? (l := tables_1_4) (i := 158) rfl)))))) rfl
theorem q_4_155 : (.methodLink RX6 61 yX1_put4 : Cond) ∈ gT := gT_mem (List.mem_append_right _ (List.mem_append_right _ (List.mem_append_right _ (List.mem_append_right _ (List.mem_append_left _ (List.mem_of_getElem? (l := tables_1_4) (i := 155) rfl)))))) rfl
theorem q_4_156 : (.instanceMethod yX1_put4 : Cond) ∈ gT := gT_mem (List.mem_append_right _ (List.mem_append_right _ (List.mem_append_right _ (List.mem_append_right _ (List.mem_append_left _ (List.mem_of_getElem? (l := tables_1_4) (i := 156) rfl)))))) rfl
theorem q_4_157 : (.selects RX1 yX1_put4 yX1_put4 : Cond) ∈ gT := gT_mem (List.mem_append_right _ (List.mem_append_right _ (List.mem_append_right _ (List.mem_append_right _ (List.mem_append_left _ (List.mem_of_getElem? (l := tables_1_4) (i := 157) rfl)))))) rfl
theorem q_1_168 : (.code yX2_blocks cX2_blocks 1 (some .int) : Cond) ∈ gT := gT_mem (List.mem_append_right _ (List.mem_append_left _ (List.mem_of_getElem? (l := tables_1_1) (i := 168) rfl))) rfl
theorem q_4_170 : (.methodLink RX6 64 yX2_blocks : Cond) ∈ gT := gT_mem (List.mem_append_right _ (List.mem_append_right _ (List.mem_append_right _ (List.mem_append_right _ (List.mem_append_left _ (List.mem_of_getElem? (l := tables_1_4) (i := 170) rfl)))))) rfl
theorem q_1_166 : (.instanceMethod yX2_blocks : Cond) ∈ gT := gT_mem (List.mem_append_right _ (List.mem_append_left _ (List.mem_of_getElem? (l := tables_1_1) (i := 166) rfl))) rfl
theorem q_1_167 : (.selects RX2 yX2_blocks yX2_blocks : Cond) ∈ gT := gT_mem (List.mem_append_right _ (List.mem_append_left _ (List.mem_of_getElem? (l := tables_1_1) (i := 167) rfl))) rfl
theorem q_4_171 : (.methodLink RX6 67 yX2_groupBlocks : Cond) ∈ gT := gT_mem (List.mem_append_right _ (List.mem_append_right _ (List.mem_append_right _ (List.mem_append_right _ (List.mem_append_left _ (List.mem_of_getElem? (l := tables_1_4) (i := 171) rfl)))))) rfl
theorem q_4_175 : (.methodLink RX6 70 yX2_groupInodes : Cond) ∈ gT := gT_mem (List.mem_append_right _ (List.mem_append_right _ (List.mem_append_right _ (List.mem_append_right _ (List.mem_append_left _ (List.mem_of_getElem? (l := tables_1_4) (i := 175) rfl)))))) rfl
theorem q_4_176 : (.constant RX6 73 (65535 : Int32) : Cond) ∈ gT := gT_mem (List.mem_append_right _ (List.mem_append_right _ (List.mem_append_right _ (List.mem_append_right _ (List.mem_append_left _ (List.mem_of_getElem? (l := tables_1_4) (i := 176) rfl)))))) rfl
theorem q_4_162 : (.code yX1_put2 cX1_put2 3 none : Cond) ∈ gT := gT_mem (List.mem_append_right _ (List.mem_append_right _ (List.mem_append_right _ (List.mem_append_right _ (List.mem_append_left _ (List.mem_of_getElem? (l := tables_1_4) (i := 162) rfl)))))) rfl
theorem q_4_159 : (.methodLink RX6 46 yX1_put2 : Cond) ∈ gT := gT_mem (List.mem_append_right _ (List.mem_append_right _ (List.mem_append_right _ (List.mem_append_right _ (List.mem_append_left _ (List.mem_of_getElem? (l := tables_1_4) (i := 159) rfl)))))) rfl
theorem q_4_160 : (.instanceMethod yX1_put2 : Cond) ∈ gT := gT_mem (List.mem_append_right _ (List.mem_append_right _ (List.mem_append_right _ (List.mem_append_right _ (List.mem_append_left _ (List.mem_of_getElem? (l := tables_1_4) (i := 160) rfl)))))) rfl
theorem q_4_161 : (.selects RX1 yX1_put2 yX1_put2 : Cond) ∈ gT := gT_mem (List.mem_append_right _ (List.mem_append_right _ (List.mem_append_right _ (List.mem_append_right _ (List.mem_append_left _ (List.mem_of_getElem? (l := tables_1_4) (i := 161) rfl)))))) rfl
theorem q_4_177 : (.constant RX6 74 (61267 : Int32) : Cond) ∈ gT := gT_mem (List.mem_append_right _ (List.mem_append_right _ (List.mem_append_right _ (List.mem_append_right _ (List.mem_append_left _ (List.mem_of_getElem? (l := tables_1_4) (i := 177) rfl)))))) rfl
theorem q_1_145 : (.fieldLink RX6 15 "InodeDesk$Heads" "blockPool" "LInodeDesk$Pool;" : Cond) ∈ gT := gT_mem (List.mem_append_right _ (List.mem_append_left _ (List.mem_of_getElem? (l := tables_1_1) (i := 145) rfl))) rfl
theorem q_4_147 : (.constant RJ11 265 (1431655765 : Int32) : Cond) ∈ gT := gT_mem (List.mem_append_right _ (List.mem_append_right _ (List.mem_append_right _ (List.mem_append_right _ (List.mem_append_left _ (List.mem_of_getElem? (l := tables_1_4) (i := 147) rfl)))))) rfl
theorem q_4_148 : (.constant RJ11 266 (858993459 : Int32) : Cond) ∈ gT := gT_mem (List.mem_append_right _ (List.mem_append_right _ (List.mem_append_right _ (List.mem_append_right _ (List.mem_append_left _ (List.mem_of_getElem? (l := tables_1_4) (i := 148) rfl)))))) rfl
theorem q_4_149 : (.constant RJ11 267 (252645135 : Int32) : Cond) ∈ gT := gT_mem (List.mem_append_right _ (List.mem_append_right _ (List.mem_append_right _ (List.mem_append_right _ (List.mem_append_left _ (List.mem_of_getElem? (l := tables_1_4) (i := 149) rfl)))))) rfl
theorem q_4_146 : (.code yJ11_bitCount cJ11_bitCount 1 (some .int) : Cond) ∈ gT := gT_mem (List.mem_append_right _ (List.mem_append_right _ (List.mem_append_right _ (List.mem_append_right _ (List.mem_append_left _ (List.mem_of_getElem? (l := tables_1_4) (i := 146) rfl)))))) rfl
theorem q_4_144 : (.methodLink RX3 74 yJ11_bitCount : Cond) ∈ gT := gT_mem (List.mem_append_right _ (List.mem_append_right _ (List.mem_append_right _ (List.mem_append_right _ (List.mem_append_left _ (List.mem_of_getElem? (l := tables_1_4) (i := 144) rfl)))))) rfl
theorem q_4_145 : (.static yJ11_bitCount : Cond) ∈ gT := gT_mem (List.mem_append_right _ (List.mem_append_right _ (List.mem_append_right _ (List.mem_append_right _ (List.mem_append_left _ (List.mem_of_getElem? (l := tables_1_4) (i := 145) rfl)))))) rfl
theorem q_1_26 : (.initialized RJ11 : Cond) ∈ gT := gT_mem (List.mem_append_right _ (List.mem_append_left _ (List.mem_of_getElem? (l := tables_1_1) (i := 26) rfl))) rfl
theorem q_4_143 : (.code yX3_freeIn cX3_freeIn 5 (some .int) : Cond) ∈ gT := gT_mem (List.mem_append_right _ (List.mem_append_right _ (List.mem_append_right _ (List.mem_append_right _ (List.mem_append_left _ (List.mem_of_getElem? (l := tables_1_4) (i := 143) rfl)))))) rfl
theorem q_4_140 : (.methodLink RX6 50 yX3_freeIn : Cond) ∈ gT := gT_mem (List.mem_append_right _ (List.mem_append_right _ (List.mem_append_right _ (List.mem_append_right _ (List.mem_append_left _ (List.mem_of_getElem? (l := tables_1_4) (i := 140) rfl)))))) rfl
theorem q_4_141 : (.instanceMethod yX3_freeIn : Cond) ∈ gT := gT_mem (List.mem_append_right _ (List.mem_append_right _ (List.mem_append_right _ (List.mem_append_right _ (List.mem_append_left _ (List.mem_of_getElem? (l := tables_1_4) (i := 141) rfl)))))) rfl
theorem q_4_142 : (.selects RX3 yX3_freeIn yX3_freeIn : Cond) ∈ gT := gT_mem (List.mem_append_right _ (List.mem_append_right _ (List.mem_append_right _ (List.mem_append_right _ (List.mem_append_left _ (List.mem_of_getElem? (l := tables_1_4) (i := 142) rfl)))))) rfl
theorem q_1_146 : (.fieldLink RX6 19 "InodeDesk$Heads" "inodePool" "LInodeDesk$Pool;" : Cond) ∈ gT := gT_mem (List.mem_append_right _ (List.mem_append_left _ (List.mem_of_getElem? (l := tables_1_1) (i := 146) rfl))) rfl
theorem q_4_154 : (.methodLink RX6 75 yX2_firstBlock : Cond) ∈ gT := gT_mem (List.mem_append_right _ (List.mem_append_right _ (List.mem_append_right _ (List.mem_append_right _ (List.mem_append_left _ (List.mem_of_getElem? (l := tables_1_4) (i := 154) rfl)))))) rfl
theorem q_1_147 : (.fieldLink RX6 22 "InodeDesk$Heads" "inodes" "LInodeDesk$Inodes;" : Cond) ∈ gT := gT_mem (List.mem_append_right _ (List.mem_append_left _ (List.mem_of_getElem? (l := tables_1_1) (i := 147) rfl))) rfl
theorem q_1_109 : (.fieldLink RX4 15 "InodeDesk$Inodes" "layout" "LInodeDesk$Layout;" : Cond) ∈ gT := gT_mem (List.mem_append_right _ (List.mem_append_left _ (List.mem_of_getElem? (l := tables_1_1) (i := 109) rfl))) rfl
theorem q_4_167 : (.methodLink RX4 46 yX2_partAt : Cond) ∈ gT := gT_mem (List.mem_append_right _ (List.mem_append_right _ (List.mem_append_right _ (List.mem_append_right _ (List.mem_append_left _ (List.mem_of_getElem? (l := tables_1_4) (i := 167) rfl)))))) rfl
theorem q_4_168 : (.methodLink RX4 50 yX2_groupInodes : Cond) ∈ gT := gT_mem (List.mem_append_right _ (List.mem_append_right _ (List.mem_append_right _ (List.mem_append_right _ (List.mem_append_left _ (List.mem_of_getElem? (l := tables_1_4) (i := 168) rfl)))))) rfl
theorem q_1_108 : (.fieldLink RX4 9 "InodeDesk$Inodes" "disk" "LInodeDesk$Disk;" : Cond) ∈ gT := gT_mem (List.mem_append_right _ (List.mem_append_left _ (List.mem_of_getElem? (l := tables_1_1) (i := 108) rfl))) rfl
theorem q_2_112 : (.code yX1_get2 cX1_get2 2 (some .int) : Cond) ∈ gT := gT_mem (List.mem_append_right _ (List.mem_append_right _ (List.mem_append_left _ (List.mem_of_getElem? (l := tables_1_2) (i := 112) rfl)))) rfl
theorem q_2_148 : (.methodLink RX4 29 yX1_get2 : Cond) ∈ gT := gT_mem (List.mem_append_right _ (List.mem_append_right _ (List.mem_append_left _ (List.mem_of_getElem? (l := tables_1_2) (i := 148) rfl)))) rfl
theorem q_2_110 : (.instanceMethod yX1_get2 : Cond) ∈ gT := gT_mem (List.mem_append_right _ (List.mem_append_right _ (List.mem_append_left _ (List.mem_of_getElem? (l := tables_1_2) (i := 110) rfl)))) rfl
theorem q_2_111 : (.selects RX1 yX1_get2 yX1_get2 : Cond) ∈ gT := gT_mem (List.mem_append_right _ (List.mem_append_right _ (List.mem_append_left _ (List.mem_of_getElem? (l := tables_1_2) (i := 111) rfl)))) rfl
theorem q_4_166 : (.code yX4_directoriesIn cX4_directoriesIn 5 (some .int) : Cond) ∈ gT := gT_mem (List.mem_append_right _ (List.mem_append_right _ (List.mem_append_right _ (List.mem_append_right _ (List.mem_append_left _ (List.mem_of_getElem? (l := tables_1_4) (i := 166) rfl)))))) rfl
theorem q_4_163 : (.methodLink RX6 78 yX4_directoriesIn : Cond) ∈ gT := gT_mem (List.mem_append_right _ (List.mem_append_right _ (List.mem_append_right _ (List.mem_append_right _ (List.mem_append_left _ (List.mem_of_getElem? (l := tables_1_4) (i := 163) rfl)))))) rfl
theorem q_4_164 : (.instanceMethod yX4_directoriesIn : Cond) ∈ gT := gT_mem (List.mem_append_right _ (List.mem_append_right _ (List.mem_append_right _ (List.mem_append_right _ (List.mem_append_left _ (List.mem_of_getElem? (l := tables_1_4) (i := 164) rfl)))))) rfl
theorem q_4_165 : (.selects RX4 yX4_directoriesIn yX4_directoriesIn : Cond) ∈ gT := gT_mem (List.mem_append_right _ (List.mem_append_right _ (List.mem_append_right _ (List.mem_append_right _ (List.mem_append_left _ (List.mem_of_getElem? (l := tables_1_4) (i := 165) rfl)))))) rfl
theorem q_1_6 : (.initialized RX4 : Cond) ∈ gT := gT_mem (List.mem_append_right _ (List.mem_append_left _ (List.mem_of_getElem? (l := tables_1_1) (i := 6) rfl))) rfl
theorem q_4_153 : (.code yX6_describe cX6_describe 5 none : Cond) ∈ gT := gT_mem (List.mem_append_right _ (List.mem_append_right _ (List.mem_append_right _ (List.mem_append_right _ (List.mem_append_left _ (List.mem_of_getElem? (l := tables_1_4) (i := 153) rfl)))))) rfl
theorem q_4_150 : (.methodLink RX6 56 yX6_describe : Cond) ∈ gT := gT_mem (List.mem_append_right _ (List.mem_append_right _ (List.mem_append_right _ (List.mem_append_right _ (List.mem_append_left _ (List.mem_of_getElem? (l := tables_1_4) (i := 150) rfl)))))) rfl
theorem q_4_152 : (.instanceMethod yX6_describe : Cond) ∈ gT := gT_mem (List.mem_append_right _ (List.mem_append_right _ (List.mem_append_right _ (List.mem_append_right _ (List.mem_append_left _ (List.mem_of_getElem? (l := tables_1_4) (i := 152) rfl)))))) rfl
theorem qp_22 : (.selects RX6 yX6_describe yX6_describe : Cond) ∈ gT := gT_mem (List.mem_append_left _ (List.mem_of_getElem? (l := k2_sels lw_privs) (i := 22) rfl)) rfl
theorem q_1_8 : (.initialized RX6 : Cond) ∈ gT := gT_mem (List.mem_append_right _ (List.mem_append_left _ (List.mem_of_getElem? (l := tables_1_1) (i := 8) rfl))) rfl
theorem q_4_138 : (.code yX6_sketch cX6_sketch 7 none : Cond) ∈ gT := gT_mem (List.mem_append_right _ (List.mem_append_right _ (List.mem_append_right _ (List.mem_append_right _ (List.mem_append_left _ (List.mem_of_getElem? (l := tables_1_4) (i := 138) rfl)))))) rfl
theorem q_4_226 : (.methodLink RX6 26 yX6_sketch : Cond) ∈ gT := gT_mem (List.mem_append_right _ (List.mem_append_right _ (List.mem_append_right _ (List.mem_append_right _ (List.mem_append_left _ (List.mem_of_getElem? (l := tables_1_4) (i := 226) rfl)))))) rfl
theorem q_4_136 : (.instanceMethod yX6_sketch : Cond) ∈ gT := gT_mem (List.mem_append_right _ (List.mem_append_right _ (List.mem_append_right _ (List.mem_append_right _ (List.mem_append_left _ (List.mem_of_getElem? (l := tables_1_4) (i := 136) rfl)))))) rfl
theorem q_4_137 : (.selects RX6 yX6_sketch yX6_sketch : Cond) ∈ gT := gT_mem (List.mem_append_right _ (List.mem_append_right _ (List.mem_append_right _ (List.mem_append_right _ (List.mem_append_left _ (List.mem_of_getElem? (l := tables_1_4) (i := 137) rfl)))))) rfl
theorem q_4_227 : (.methodLink RX6 36 yX2_partAt : Cond) ∈ gT := gT_mem (List.mem_append_right _ (List.mem_append_right _ (List.mem_append_right _ (List.mem_append_right _ (List.mem_append_left _ (List.mem_of_getElem? (l := tables_1_4) (i := 227) rfl)))))) rfl
theorem q_4_232 : (.methodLink RX1 27 arraycopyName : Cond) ∈ gT := gT_mem (List.mem_append_right _ (List.mem_append_right _ (List.mem_append_right _ (List.mem_append_right _ (List.mem_append_left _ (List.mem_of_getElem? (l := tables_1_4) (i := 232) rfl)))))) rfl
theorem q_4_231 : (.code yX1_copy cX1_copy 4 none : Cond) ∈ gT := gT_mem (List.mem_append_right _ (List.mem_append_right _ (List.mem_append_right _ (List.mem_append_right _ (List.mem_append_left _ (List.mem_of_getElem? (l := tables_1_4) (i := 231) rfl)))))) rfl
theorem q_4_228 : (.methodLink RX6 40 yX1_copy : Cond) ∈ gT := gT_mem (List.mem_append_right _ (List.mem_append_right _ (List.mem_append_right _ (List.mem_append_right _ (List.mem_append_left _ (List.mem_of_getElem? (l := tables_1_4) (i := 228) rfl)))))) rfl
theorem q_4_229 : (.instanceMethod yX1_copy : Cond) ∈ gT := gT_mem (List.mem_append_right _ (List.mem_append_right _ (List.mem_append_right _ (List.mem_append_right _ (List.mem_append_left _ (List.mem_of_getElem? (l := tables_1_4) (i := 229) rfl)))))) rfl
theorem q_4_230 : (.selects RX1 yX1_copy yX1_copy : Cond) ∈ gT := gT_mem (List.mem_append_right _ (List.mem_append_right _ (List.mem_append_right _ (List.mem_append_right _ (List.mem_append_left _ (List.mem_of_getElem? (l := tables_1_4) (i := 230) rfl)))))) rfl
theorem q_4_225 : (.code yX6_lay cX6_lay 5 none : Cond) ∈ gT := gT_mem (List.mem_append_right _ (List.mem_append_right _ (List.mem_append_right _ (List.mem_append_right _ (List.mem_append_left _ (List.mem_of_getElem? (l := tables_1_4) (i := 225) rfl)))))) rfl
theorem q_4_222 : (.methodLink RX0 123 yX6_lay : Cond) ∈ gT := gT_mem (List.mem_append_right _ (List.mem_append_right _ (List.mem_append_right _ (List.mem_append_right _ (List.mem_append_left _ (List.mem_of_getElem? (l := tables_1_4) (i := 222) rfl)))))) rfl
theorem q_4_223 : (.instanceMethod yX6_lay : Cond) ∈ gT := gT_mem (List.mem_append_right _ (List.mem_append_right _ (List.mem_append_right _ (List.mem_append_right _ (List.mem_append_left _ (List.mem_of_getElem? (l := tables_1_4) (i := 223) rfl)))))) rfl
theorem q_4_224 : (.selects RX6 yX6_lay yX6_lay : Cond) ∈ gT := gT_mem (List.mem_append_right _ (List.mem_append_right _ (List.mem_append_right _ (List.mem_append_right _ (List.mem_append_left _ (List.mem_of_getElem? (l := tables_1_4) (i := 224) rfl)))))) rfl
theorem q_1_227 : (.fieldLink RX0 51 "InodeDesk" "inodes" "LInodeDesk$Inodes;" : Cond) ∈ gT := gT_mem (List.mem_append_right _ (List.mem_append_left _ (List.mem_of_getElem? (l := tables_1_1) (i := 227) rfl))) rfl
theorem q_2_103 : (.code yX2_inodeAt cX2_inodeAt 3 (some .int) : Cond) ∈ gT := gT_mem (List.mem_append_right _ (List.mem_append_right _ (List.mem_append_left _ (List.mem_of_getElem? (l := tables_1_2) (i := 103) rfl)))) rfl
theorem q_2_147 : (.methodLink RX4 23 yX2_inodeAt : Cond) ∈ gT := gT_mem (List.mem_append_right _ (List.mem_append_right _ (List.mem_append_left _ (List.mem_of_getElem? (l := tables_1_2) (i := 147) rfl)))) rfl
theorem q_2_101 : (.instanceMethod yX2_inodeAt : Cond) ∈ gT := gT_mem (List.mem_append_right _ (List.mem_append_right _ (List.mem_append_left _ (List.mem_of_getElem? (l := tables_1_2) (i := 101) rfl)))) rfl
theorem q_2_102 : (.selects RX2 yX2_inodeAt yX2_inodeAt : Cond) ∈ gT := gT_mem (List.mem_append_right _ (List.mem_append_right _ (List.mem_append_left _ (List.mem_of_getElem? (l := tables_1_2) (i := 102) rfl)))) rfl
theorem q_5_11 : (.constant RX4 60 (33188 : Int32) : Cond) ∈ gT := gT_mem (List.mem_append_right _ (List.mem_append_right _ (List.mem_append_right _ (List.mem_append_right _ (List.mem_append_right _ (List.mem_append_left _ (List.mem_of_getElem? (l := tables_1_5) (i := 11) rfl))))))) rfl
theorem q_5_12 : (.methodLink RX4 41 yX1_put2 : Cond) ∈ gT := gT_mem (List.mem_append_right _ (List.mem_append_right _ (List.mem_append_right _ (List.mem_append_right _ (List.mem_append_right _ (List.mem_append_left _ (List.mem_of_getElem? (l := tables_1_5) (i := 12) rfl))))))) rfl
theorem q_5_10 : (.code yX4_begin cX4_begin 4 none : Cond) ∈ gT := gT_mem (List.mem_append_right _ (List.mem_append_right _ (List.mem_append_right _ (List.mem_append_right _ (List.mem_append_right _ (List.mem_append_left _ (List.mem_of_getElem? (l := tables_1_5) (i := 10) rfl))))))) rfl
theorem q_5_7 : (.methodLink RX0 129 yX4_begin : Cond) ∈ gT := gT_mem (List.mem_append_right _ (List.mem_append_right _ (List.mem_append_right _ (List.mem_append_right _ (List.mem_append_right _ (List.mem_append_left _ (List.mem_of_getElem? (l := tables_1_5) (i := 7) rfl))))))) rfl
theorem q_5_8 : (.instanceMethod yX4_begin : Cond) ∈ gT := gT_mem (List.mem_append_right _ (List.mem_append_right _ (List.mem_append_right _ (List.mem_append_right _ (List.mem_append_right _ (List.mem_append_left _ (List.mem_of_getElem? (l := tables_1_5) (i := 8) rfl))))))) rfl
theorem q_5_9 : (.selects RX4 yX4_begin yX4_begin : Cond) ∈ gT := gT_mem (List.mem_append_right _ (List.mem_append_right _ (List.mem_append_right _ (List.mem_append_right _ (List.mem_append_right _ (List.mem_append_left _ (List.mem_of_getElem? (l := tables_1_5) (i := 9) rfl))))))) rfl
theorem q_5_20 : (.code yX2_groupOfInode cX2_groupOfInode 2 (some .int) : Cond) ∈ gT := gT_mem (List.mem_append_right _ (List.mem_append_right _ (List.mem_append_right _ (List.mem_append_right _ (List.mem_append_right _ (List.mem_append_left _ (List.mem_of_getElem? (l := tables_1_5) (i := 20) rfl))))))) rfl
theorem q_5_17 : (.methodLink RX4 54 yX2_groupOfInode : Cond) ∈ gT := gT_mem (List.mem_append_right _ (List.mem_append_right _ (List.mem_append_right _ (List.mem_append_right _ (List.mem_append_right _ (List.mem_append_left _ (List.mem_of_getElem? (l := tables_1_5) (i := 17) rfl))))))) rfl
theorem q_5_18 : (.instanceMethod yX2_groupOfInode : Cond) ∈ gT := gT_mem (List.mem_append_right _ (List.mem_append_right _ (List.mem_append_right _ (List.mem_append_right _ (List.mem_append_right _ (List.mem_append_left _ (List.mem_of_getElem? (l := tables_1_5) (i := 18) rfl))))))) rfl
theorem q_5_19 : (.selects RX2 yX2_groupOfInode yX2_groupOfInode : Cond) ∈ gT := gT_mem (List.mem_append_right _ (List.mem_append_right _ (List.mem_append_right _ (List.mem_append_right _ (List.mem_append_right _ (List.mem_append_left _ (List.mem_of_getElem? (l := tables_1_5) (i := 19) rfl))))))) rfl
theorem q_5_21 : (.methodLink RX4 57 yX2_groups : Cond) ∈ gT := gT_mem (List.mem_append_right _ (List.mem_append_right _ (List.mem_append_right _ (List.mem_append_right _ (List.mem_append_right _ (List.mem_append_left _ (List.mem_of_getElem? (l := tables_1_5) (i := 21) rfl))))))) rfl
theorem q_5_16 : (.code yX4_countDirectories cX4_countDirectories 6 none : Cond) ∈ gT := gT_mem (List.mem_append_right _ (List.mem_append_right _ (List.mem_append_right _ (List.mem_append_right _ (List.mem_append_right _ (List.mem_append_left _ (List.mem_of_getElem? (l := tables_1_5) (i := 16) rfl))))))) rfl
theorem q_5_13 : (.methodLink RX0 133 yX4_countDirectories : Cond) ∈ gT := gT_mem (List.mem_append_right _ (List.mem_append_right _ (List.mem_append_right _ (List.mem_append_right _ (List.mem_append_right _ (List.mem_append_left _ (List.mem_of_getElem? (l := tables_1_5) (i := 13) rfl))))))) rfl
theorem q_5_14 : (.instanceMethod yX4_countDirectories : Cond) ∈ gT := gT_mem (List.mem_append_right _ (List.mem_append_right _ (List.mem_append_right _ (List.mem_append_right _ (List.mem_append_right _ (List.mem_append_left _ (List.mem_of_getElem? (l := tables_1_5) (i := 14) rfl))))))) rfl
theorem q_5_15 : (.selects RX4 yX4_countDirectories yX4_countDirectories : Cond) ∈ gT := gT_mem (List.mem_append_right _ (List.mem_append_right _ (List.mem_append_right _ (List.mem_append_right _ (List.mem_append_right _ (List.mem_append_left _ (List.mem_of_getElem? (l := tables_1_5) (i := 15) rfl))))))) rfl
theorem q_1_228 : (.fieldLink RX0 60 "InodeDesk" "listing" "LInodeDesk$Listing;" : Cond) ∈ gT := gT_mem (List.mem_append_right _ (List.mem_append_left _ (List.mem_of_getElem? (l := tables_1_1) (i := 228) rfl))) rfl
theorem q_2_116 : (.code yX1_get4 cX1_get4 2 (some .int) : Cond) ∈ gT := gT_mem (List.mem_append_right _ (List.mem_append_right _ (List.mem_append_left _ (List.mem_of_getElem? (l := tables_1_2) (i := 116) rfl)))) rfl
theorem q_2_157 : (.methodLink RX4 34 yX1_get4 : Cond) ∈ gT := gT_mem (List.mem_append_right _ (List.mem_append_right _ (List.mem_append_left _ (List.mem_of_getElem? (l := tables_1_2) (i := 157) rfl)))) rfl
theorem q_2_114 : (.instanceMethod yX1_get4 : Cond) ∈ gT := gT_mem (List.mem_append_right _ (List.mem_append_right _ (List.mem_append_left _ (List.mem_of_getElem? (l := tables_1_2) (i := 114) rfl)))) rfl
theorem q_2_115 : (.selects RX1 yX1_get4 yX1_get4 : Cond) ∈ gT := gT_mem (List.mem_append_right _ (List.mem_append_right _ (List.mem_append_left _ (List.mem_of_getElem? (l := tables_1_2) (i := 115) rfl)))) rfl
theorem q_2_156 : (.code yX4_size cX4_size 2 (some .int) : Cond) ∈ gT := gT_mem (List.mem_append_right _ (List.mem_append_right _ (List.mem_append_left _ (List.mem_of_getElem? (l := tables_1_2) (i := 156) rfl)))) rfl
theorem q_5_26 : (.methodLink RX4 65 yX4_size : Cond) ∈ gT := gT_mem (List.mem_append_right _ (List.mem_append_right _ (List.mem_append_right _ (List.mem_append_right _ (List.mem_append_right _ (List.mem_append_left _ (List.mem_of_getElem? (l := tables_1_5) (i := 26) rfl))))))) rfl
theorem q_2_154 : (.instanceMethod yX4_size : Cond) ∈ gT := gT_mem (List.mem_append_right _ (List.mem_append_right _ (List.mem_append_left _ (List.mem_of_getElem? (l := tables_1_2) (i := 154) rfl)))) rfl
theorem q_2_155 : (.selects RX4 yX4_size yX4_size : Cond) ∈ gT := gT_mem (List.mem_append_right _ (List.mem_append_right _ (List.mem_append_left _ (List.mem_of_getElem? (l := tables_1_2) (i := 155) rfl)))) rfl
theorem q_2_121 : (.code yX4_blocksFor cX4_blocksFor 1 (some .int) : Cond) ∈ gT := gT_mem (List.mem_append_right _ (List.mem_append_right _ (List.mem_append_left _ (List.mem_of_getElem? (l := tables_1_2) (i := 121) rfl)))) rfl
theorem q_5_27 : (.methodLink RX4 68 yX4_blocksFor : Cond) ∈ gT := gT_mem (List.mem_append_right _ (List.mem_append_right _ (List.mem_append_right _ (List.mem_append_right _ (List.mem_append_right _ (List.mem_append_left _ (List.mem_of_getElem? (l := tables_1_5) (i := 27) rfl))))))) rfl
theorem q_2_120 : (.static yX4_blocksFor : Cond) ∈ gT := gT_mem (List.mem_append_right _ (List.mem_append_right _ (List.mem_append_left _ (List.mem_of_getElem? (l := tables_1_2) (i := 120) rfl)))) rfl
theorem q_5_41 : (.code yX4_beginsRow cX4_beginsRow 1 (some .boolean) : Cond) ∈ gT := gT_mem (List.mem_append_right _ (List.mem_append_right _ (List.mem_append_right _ (List.mem_append_right _ (List.mem_append_right _ (List.mem_append_left _ (List.mem_of_getElem? (l := tables_1_5) (i := 41) rfl))))))) rfl
theorem q_5_39 : (.methodLink RX4 80 yX4_beginsRow : Cond) ∈ gT := gT_mem (List.mem_append_right _ (List.mem_append_right _ (List.mem_append_right _ (List.mem_append_right _ (List.mem_append_right _ (List.mem_append_left _ (List.mem_of_getElem? (l := tables_1_5) (i := 39) rfl))))))) rfl
theorem q_5_40 : (.static yX4_beginsRow : Cond) ∈ gT := gT_mem (List.mem_append_right _ (List.mem_append_right _ (List.mem_append_right _ (List.mem_append_right _ (List.mem_append_right _ (List.mem_append_left _ (List.mem_of_getElem? (l := tables_1_5) (i := 40) rfl))))))) rfl
theorem q_2_167 : (.code yX4_pointerAt cX4_pointerAt 4 (some .int) : Cond) ∈ gT := gT_mem (List.mem_append_right _ (List.mem_append_right _ (List.mem_append_left _ (List.mem_of_getElem? (l := tables_1_2) (i := 167) rfl)))) rfl
theorem q_2_164 : (.methodLink RX4 74 yX4_pointerAt : Cond) ∈ gT := gT_mem (List.mem_append_right _ (List.mem_append_right _ (List.mem_append_left _ (List.mem_of_getElem? (l := tables_1_2) (i := 164) rfl)))) rfl
theorem q_2_166 : (.instanceMethod yX4_pointerAt : Cond) ∈ gT := gT_mem (List.mem_append_right _ (List.mem_append_right _ (List.mem_append_left _ (List.mem_of_getElem? (l := tables_1_2) (i := 166) rfl)))) rfl
theorem qp_7 : (.selects RX4 yX4_pointerAt yX4_pointerAt : Cond) ∈ gT := gT_mem (List.mem_append_left _ (List.mem_of_getElem? (l := k2_sels lw_privs) (i := 7) rfl)) rfl
theorem q_1_110 : (.fieldLink RX4 19 "InodeDesk$Inodes" "blockPool" "LInodeDesk$Pool;" : Cond) ∈ gT := gT_mem (List.mem_append_right _ (List.mem_append_left _ (List.mem_of_getElem? (l := tables_1_1) (i := 110) rfl))) rfl
theorem q_4_239 : (.code yX3_lowestClear cX3_lowestClear 2 (some .int) : Cond) ∈ gT := gT_mem (List.mem_append_right _ (List.mem_append_right _ (List.mem_append_right _ (List.mem_append_right _ (List.mem_append_left _ (List.mem_of_getElem? (l := tables_1_4) (i := 239) rfl)))))) rfl
theorem q_4_237 : (.methodLink RX3 79 yX3_lowestClear : Cond) ∈ gT := gT_mem (List.mem_append_right _ (List.mem_append_right _ (List.mem_append_right _ (List.mem_append_right _ (List.mem_append_left _ (List.mem_of_getElem? (l := tables_1_4) (i := 237) rfl)))))) rfl
theorem q_4_238 : (.static yX3_lowestClear : Cond) ∈ gT := gT_mem (List.mem_append_right _ (List.mem_append_right _ (List.mem_append_right _ (List.mem_append_right _ (List.mem_append_left _ (List.mem_of_getElem? (l := tables_1_4) (i := 238) rfl)))))) rfl
theorem q_1_86 : (.fieldLink RX3 23 "InodeDesk$Pool" "superCount" "I" : Cond) ∈ gT := gT_mem (List.mem_append_right _ (List.mem_append_left _ (List.mem_of_getElem? (l := tables_1_1) (i := 86) rfl))) rfl
theorem q_1_87 : (.fieldLink RX3 26 "InodeDesk$Pool" "groupCount" "I" : Cond) ∈ gT := gT_mem (List.mem_append_right _ (List.mem_append_left _ (List.mem_of_getElem? (l := tables_1_1) (i := 87) rfl))) rfl
theorem q_4_188 : (.methodLink RX3 71 yX1_get4 : Cond) ∈ gT := gT_mem (List.mem_append_right _ (List.mem_append_right _ (List.mem_append_right _ (List.mem_append_right _ (List.mem_append_left _ (List.mem_of_getElem? (l := tables_1_4) (i := 188) rfl)))))) rfl
theorem q_5_4 : (.methodLink RX3 90 yX1_put4 : Cond) ∈ gT := gT_mem (List.mem_append_right _ (List.mem_append_right _ (List.mem_append_right _ (List.mem_append_right _ (List.mem_append_right _ (List.mem_append_left _ (List.mem_of_getElem? (l := tables_1_5) (i := 4) rfl))))))) rfl
theorem q_5_5 : (.methodLink RX3 93 yX1_get2 : Cond) ∈ gT := gT_mem (List.mem_append_right _ (List.mem_append_right _ (List.mem_append_right _ (List.mem_append_right _ (List.mem_append_right _ (List.mem_append_left _ (List.mem_of_getElem? (l := tables_1_5) (i := 5) rfl))))))) rfl
theorem q_5_6 : (.methodLink RX3 96 yX1_put2 : Cond) ∈ gT := gT_mem (List.mem_append_right _ (List.mem_append_right _ (List.mem_append_right _ (List.mem_append_right _ (List.mem_append_right _ (List.mem_append_left _ (List.mem_of_getElem? (l := tables_1_5) (i := 6) rfl))))))) rfl
theorem q_5_3 : (.code yX3_mark cX3_mark 11 none : Cond) ∈ gT := gT_mem (List.mem_append_right _ (List.mem_append_right _ (List.mem_append_right _ (List.mem_append_right _ (List.mem_append_right _ (List.mem_append_left _ (List.mem_of_getElem? (l := tables_1_5) (i := 3) rfl))))))) rfl
theorem q_5_0 : (.methodLink RX3 82 yX3_mark : Cond) ∈ gT := gT_mem (List.mem_append_right _ (List.mem_append_right _ (List.mem_append_right _ (List.mem_append_right _ (List.mem_append_right _ (List.mem_append_left _ (List.mem_of_getElem? (l := tables_1_5) (i := 0) rfl))))))) rfl
theorem q_5_2 : (.instanceMethod yX3_mark : Cond) ∈ gT := gT_mem (List.mem_append_right _ (List.mem_append_right _ (List.mem_append_right _ (List.mem_append_right _ (List.mem_append_right _ (List.mem_append_left _ (List.mem_of_getElem? (l := tables_1_5) (i := 2) rfl))))))) rfl
theorem qp_23 : (.selects RX3 yX3_mark yX3_mark : Cond) ∈ gT := gT_mem (List.mem_append_left _ (List.mem_of_getElem? (l := k2_sels lw_privs) (i := 23) rfl)) rfl
theorem q_4_236 : (.code yX3_take cX3_take 5 (some .int) : Cond) ∈ gT := gT_mem (List.mem_append_right _ (List.mem_append_right _ (List.mem_append_right _ (List.mem_append_right _ (List.mem_append_left _ (List.mem_of_getElem? (l := tables_1_4) (i := 236) rfl)))))) rfl
theorem q_5_36 : (.methodLink RX4 87 yX3_take : Cond) ∈ gT := gT_mem (List.mem_append_right _ (List.mem_append_right _ (List.mem_append_right _ (List.mem_append_right _ (List.mem_append_right _ (List.mem_append_left _ (List.mem_of_getElem? (l := tables_1_5) (i := 36) rfl))))))) rfl
theorem q_4_234 : (.instanceMethod yX3_take : Cond) ∈ gT := gT_mem (List.mem_append_right _ (List.mem_append_right _ (List.mem_append_right _ (List.mem_append_right _ (List.mem_append_left _ (List.mem_of_getElem? (l := tables_1_4) (i := 234) rfl)))))) rfl
theorem q_4_235 : (.selects RX3 yX3_take yX3_take : Cond) ∈ gT := gT_mem (List.mem_append_right _ (List.mem_append_right _ (List.mem_append_right _ (List.mem_append_right _ (List.mem_append_left _ (List.mem_of_getElem? (l := tables_1_4) (i := 235) rfl)))))) rfl
theorem q_5_37 : (.methodLink RX4 61 yX1_fill : Cond) ∈ gT := gT_mem (List.mem_append_right _ (List.mem_append_right _ (List.mem_append_right _ (List.mem_append_right _ (List.mem_append_right _ (List.mem_append_left _ (List.mem_of_getElem? (l := tables_1_5) (i := 37) rfl))))))) rfl
theorem q_5_38 : (.methodLink RX4 37 yX1_put4 : Cond) ∈ gT := gT_mem (List.mem_append_right _ (List.mem_append_right _ (List.mem_append_right _ (List.mem_append_right _ (List.mem_append_right _ (List.mem_append_left _ (List.mem_of_getElem? (l := tables_1_5) (i := 38) rfl))))))) rfl
theorem q_5_35 : (.code yX4_gain cX4_gain 4 none : Cond) ∈ gT := gT_mem (List.mem_append_right _ (List.mem_append_right _ (List.mem_append_right _ (List.mem_append_right _ (List.mem_append_right _ (List.mem_append_left _ (List.mem_of_getElem? (l := tables_1_5) (i := 35) rfl))))))) rfl
theorem q_5_32 : (.methodLink RX4 77 yX4_gain : Cond) ∈ gT := gT_mem (List.mem_append_right _ (List.mem_append_right _ (List.mem_append_right _ (List.mem_append_right _ (List.mem_append_right _ (List.mem_append_left _ (List.mem_of_getElem? (l := tables_1_5) (i := 32) rfl))))))) rfl
theorem q_5_34 : (.instanceMethod yX4_gain : Cond) ∈ gT := gT_mem (List.mem_append_right _ (List.mem_append_right _ (List.mem_append_right _ (List.mem_append_right _ (List.mem_append_right _ (List.mem_append_left _ (List.mem_of_getElem? (l := tables_1_5) (i := 34) rfl))))))) rfl
theorem qp_25 : (.selects RX4 yX4_gain yX4_gain : Cond) ∈ gT := gT_mem (List.mem_append_left _ (List.mem_of_getElem? (l := k2_sels lw_privs) (i := 25) rfl)) rfl
theorem q_5_45 : (.code yX4_rowPointerAt cX4_rowPointerAt 3 (some .int) : Cond) ∈ gT := gT_mem (List.mem_append_right _ (List.mem_append_right _ (List.mem_append_right _ (List.mem_append_right _ (List.mem_append_right _ (List.mem_append_left _ (List.mem_of_getElem? (l := tables_1_5) (i := 45) rfl))))))) rfl
theorem q_5_42 : (.methodLink RX4 84 yX4_rowPointerAt : Cond) ∈ gT := gT_mem (List.mem_append_right _ (List.mem_append_right _ (List.mem_append_right _ (List.mem_append_right _ (List.mem_append_right _ (List.mem_append_left _ (List.mem_of_getElem? (l := tables_1_5) (i := 42) rfl))))))) rfl
theorem q_5_44 : (.instanceMethod yX4_rowPointerAt : Cond) ∈ gT := gT_mem (List.mem_append_right _ (List.mem_append_right _ (List.mem_append_right _ (List.mem_append_right _ (List.mem_append_right _ (List.mem_append_left _ (List.mem_of_getElem? (l := tables_1_5) (i := 44) rfl))))))) rfl
theorem qp_26 : (.selects RX4 yX4_rowPointerAt yX4_rowPointerAt : Cond) ∈ gT := gT_mem (List.mem_append_left _ (List.mem_of_getElem? (l := k2_sels lw_privs) (i := 26) rfl)) rfl
theorem q_5_31 : (.code yX4_addBlock cX4_addBlock 4 none : Cond) ∈ gT := gT_mem (List.mem_append_right _ (List.mem_append_right _ (List.mem_append_right _ (List.mem_append_right _ (List.mem_append_right _ (List.mem_append_left _ (List.mem_of_getElem? (l := tables_1_5) (i := 31) rfl))))))) rfl
theorem q_5_28 : (.methodLink RX4 99 yX4_addBlock : Cond) ∈ gT := gT_mem (List.mem_append_right _ (List.mem_append_right _ (List.mem_append_right _ (List.mem_append_right _ (List.mem_append_right _ (List.mem_append_left _ (List.mem_of_getElem? (l := tables_1_5) (i := 28) rfl))))))) rfl
theorem q_5_30 : (.instanceMethod yX4_addBlock : Cond) ∈ gT := gT_mem (List.mem_append_right _ (List.mem_append_right _ (List.mem_append_right _ (List.mem_append_right _ (List.mem_append_right _ (List.mem_append_left _ (List.mem_of_getElem? (l := tables_1_5) (i := 30) rfl))))))) rfl
theorem qp_24 : (.selects RX4 yX4_addBlock yX4_addBlock : Cond) ∈ gT := gT_mem (List.mem_append_left _ (List.mem_of_getElem? (l := k2_sels lw_privs) (i := 24) rfl)) rfl
theorem q_5_49 : (.code yX4_setSize cX4_setSize 3 none : Cond) ∈ gT := gT_mem (List.mem_append_right _ (List.mem_append_right _ (List.mem_append_right _ (List.mem_append_right _ (List.mem_append_right _ (List.mem_append_left _ (List.mem_of_getElem? (l := tables_1_5) (i := 49) rfl))))))) rfl
theorem q_5_46 : (.methodLink RX4 102 yX4_setSize : Cond) ∈ gT := gT_mem (List.mem_append_right _ (List.mem_append_right _ (List.mem_append_right _ (List.mem_append_right _ (List.mem_append_right _ (List.mem_append_left _ (List.mem_of_getElem? (l := tables_1_5) (i := 46) rfl))))))) rfl
theorem q_5_48 : (.instanceMethod yX4_setSize : Cond) ∈ gT := gT_mem (List.mem_append_right _ (List.mem_append_right _ (List.mem_append_right _ (List.mem_append_right _ (List.mem_append_right _ (List.mem_append_left _ (List.mem_of_getElem? (l := tables_1_5) (i := 48) rfl))))))) rfl
theorem qp_27 : (.selects RX4 yX4_setSize yX4_setSize : Cond) ∈ gT := gT_mem (List.mem_append_left _ (List.mem_of_getElem? (l := k2_sels lw_privs) (i := 27) rfl)) rfl
theorem q_2_163 : (.code yX4_blockOf cX4_blockOf 3 (some .int) : Cond) ∈ gT := gT_mem (List.mem_append_right _ (List.mem_append_right _ (List.mem_append_left _ (List.mem_of_getElem? (l := tables_1_2) (i := 163) rfl)))) rfl
theorem q_5_50 : (.methodLink RX4 105 yX4_blockOf : Cond) ∈ gT := gT_mem (List.mem_append_right _ (List.mem_append_right _ (List.mem_append_right _ (List.mem_append_right _ (List.mem_append_right _ (List.mem_append_left _ (List.mem_of_getElem? (l := tables_1_5) (i := 50) rfl))))))) rfl
theorem q_2_161 : (.instanceMethod yX4_blockOf : Cond) ∈ gT := gT_mem (List.mem_append_right _ (List.mem_append_right _ (List.mem_append_left _ (List.mem_of_getElem? (l := tables_1_2) (i := 161) rfl)))) rfl
theorem q_2_162 : (.selects RX4 yX4_blockOf yX4_blockOf : Cond) ∈ gT := gT_mem (List.mem_append_right _ (List.mem_append_right _ (List.mem_append_left _ (List.mem_of_getElem? (l := tables_1_2) (i := 162) rfl)))) rfl
theorem q_5_25 : (.code yX4_addDirectoryBlock cX4_addDirectoryBlock 3 (some .int) : Cond) ∈ gT := gT_mem (List.mem_append_right _ (List.mem_append_right _ (List.mem_append_right _ (List.mem_append_right _ (List.mem_append_right _ (List.mem_append_left _ (List.mem_of_getElem? (l := tables_1_5) (i := 25) rfl))))))) rfl
theorem q_5_22 : (.methodLink RX0 136 yX4_addDirectoryBlock : Cond) ∈ gT := gT_mem (List.mem_append_right _ (List.mem_append_right _ (List.mem_append_right _ (List.mem_append_right _ (List.mem_append_right _ (List.mem_append_left _ (List.mem_of_getElem? (l := tables_1_5) (i := 22) rfl))))))) rfl
theorem q_5_23 : (.instanceMethod yX4_addDirectoryBlock : Cond) ∈ gT := gT_mem (List.mem_append_right _ (List.mem_append_right _ (List.mem_append_right _ (List.mem_append_right _ (List.mem_append_right _ (List.mem_append_left _ (List.mem_of_getElem? (l := tables_1_5) (i := 23) rfl))))))) rfl
theorem q_5_24 : (.selects RX4 yX4_addDirectoryBlock yX4_addDirectoryBlock : Cond) ∈ gT := gT_mem (List.mem_append_right _ (List.mem_append_right _ (List.mem_append_right _ (List.mem_append_right _ (List.mem_append_right _ (List.mem_append_left _ (List.mem_of_getElem? (l := tables_1_5) (i := 24) rfl))))))) rfl
theorem q_1_124 : (.fieldLink RX5 15 "InodeDesk$Listing" "disk" "LInodeDesk$Disk;" : Cond) ∈ gT := gT_mem (List.mem_append_right _ (List.mem_append_left _ (List.mem_of_getElem? (l := tables_1_1) (i := 124) rfl))) rfl
theorem q_5_55 : (.methodLink RX5 93 yX1_put4 : Cond) ∈ gT := gT_mem (List.mem_append_right _ (List.mem_append_right _ (List.mem_append_right _ (List.mem_append_right _ (List.mem_append_right _ (List.mem_append_left _ (List.mem_of_getElem? (l := tables_1_5) (i := 55) rfl))))))) rfl
theorem q_5_56 : (.methodLink RX5 89 yX1_put2 : Cond) ∈ gT := gT_mem (List.mem_append_right _ (List.mem_append_right _ (List.mem_append_right _ (List.mem_append_right _ (List.mem_append_right _ (List.mem_append_left _ (List.mem_of_getElem? (l := tables_1_5) (i := 56) rfl))))))) rfl
theorem q_5_57 : (.methodLink RX5 96 yX1_put : Cond) ∈ gT := gT_mem (List.mem_append_right _ (List.mem_append_right _ (List.mem_append_right _ (List.mem_append_right _ (List.mem_append_right _ (List.mem_append_left _ (List.mem_of_getElem? (l := tables_1_5) (i := 57) rfl))))))) rfl
theorem q_5_54 : (.code yX5_layDots cX5_layDots 6 none : Cond) ∈ gT := gT_mem (List.mem_append_right _ (List.mem_append_right _ (List.mem_append_right _ (List.mem_append_right _ (List.mem_append_right _ (List.mem_append_left _ (List.mem_of_getElem? (l := tables_1_5) (i := 54) rfl))))))) rfl
theorem q_5_51 : (.methodLink RX0 139 yX5_layDots : Cond) ∈ gT := gT_mem (List.mem_append_right _ (List.mem_append_right _ (List.mem_append_right _ (List.mem_append_right _ (List.mem_append_right _ (List.mem_append_left _ (List.mem_of_getElem? (l := tables_1_5) (i := 51) rfl))))))) rfl
theorem q_5_52 : (.instanceMethod yX5_layDots : Cond) ∈ gT := gT_mem (List.mem_append_right _ (List.mem_append_right _ (List.mem_append_right _ (List.mem_append_right _ (List.mem_append_right _ (List.mem_append_left _ (List.mem_of_getElem? (l := tables_1_5) (i := 52) rfl))))))) rfl
theorem q_5_53 : (.selects RX5 yX5_layDots yX5_layDots : Cond) ∈ gT := gT_mem (List.mem_append_right _ (List.mem_append_right _ (List.mem_append_right _ (List.mem_append_right _ (List.mem_append_right _ (List.mem_append_left _ (List.mem_of_getElem? (l := tables_1_5) (i := 53) rfl))))))) rfl
theorem q_1_7 : (.initialized RX5 : Cond) ∈ gT := gT_mem (List.mem_append_right _ (List.mem_append_left _ (List.mem_of_getElem? (l := tables_1_1) (i := 7) rfl))) rfl
theorem q_1_232 : (.fieldLink RX0 142 "InodeDesk" "made" "Z" : Cond) ∈ gT := gT_mem (List.mem_append_right _ (List.mem_append_left _ (List.mem_of_getElem? (l := tables_1_1) (i := 232) rfl))) rfl
theorem q_1_233 : (.fieldLink RX0 89 "InodeDesk" "here" "I" : Cond) ∈ gT := gT_mem (List.mem_append_right _ (List.mem_append_left _ (List.mem_of_getElem? (l := tables_1_1) (i := 233) rfl))) rfl
theorem q_4_187 : (.code yX3_free cX3_free 1 (some .int) : Cond) ∈ gT := gT_mem (List.mem_append_right _ (List.mem_append_right _ (List.mem_append_right _ (List.mem_append_right _ (List.mem_append_left _ (List.mem_of_getElem? (l := tables_1_4) (i := 187) rfl)))))) rfl
theorem q_4_184 : (.methodLink RX0 146 yX3_free : Cond) ∈ gT := gT_mem (List.mem_append_right _ (List.mem_append_right _ (List.mem_append_right _ (List.mem_append_right _ (List.mem_append_left _ (List.mem_of_getElem? (l := tables_1_4) (i := 184) rfl)))))) rfl
theorem q_4_185 : (.instanceMethod yX3_free : Cond) ∈ gT := gT_mem (List.mem_append_right _ (List.mem_append_right _ (List.mem_append_right _ (List.mem_append_right _ (List.mem_append_left _ (List.mem_of_getElem? (l := tables_1_4) (i := 185) rfl)))))) rfl
theorem q_4_186 : (.selects RX3 yX3_free yX3_free : Cond) ∈ gT := gT_mem (List.mem_append_right _ (List.mem_append_right _ (List.mem_append_right _ (List.mem_append_right _ (List.mem_append_left _ (List.mem_of_getElem? (l := tables_1_4) (i := 186) rfl)))))) rfl
theorem q_4_233 : (.methodLink RX0 126 yX3_take : Cond) ∈ gT := gT_mem (List.mem_append_right _ (List.mem_append_right _ (List.mem_append_right _ (List.mem_append_right _ (List.mem_append_left _ (List.mem_of_getElem? (l := tables_1_4) (i := 233) rfl)))))) rfl
theorem q_4_206 : (.classLink RX0 105 "java/lang/IllegalArgumentException" : Cond) ∈ gT := gT_mem (List.mem_append_right _ (List.mem_append_right _ (List.mem_append_right _ (List.mem_append_right _ (List.mem_append_left _ (List.mem_of_getElem? (l := tables_1_4) (i := 206) rfl)))))) rfl
theorem q_1_18 : (.initialized "java/lang/IllegalArgumentException" : Cond) ∈ gT := gT_mem (List.mem_append_right _ (List.mem_append_left _ (List.mem_of_getElem? (l := tables_1_1) (i := 18) rfl))) rfl
theorem q_3_52 : (.instantiable "java/lang/IllegalArgumentException" 6 : Cond) ∈ gT := gT_mem (List.mem_append_right _ (List.mem_append_right _ (List.mem_append_right _ (List.mem_append_left _ (List.mem_of_getElem? (l := tables_1_3) (i := 52) rfl))))) rfl
theorem q_2_59 : (.methodLink RX0 153 yX1_get : Cond) ∈ gT := gT_mem (List.mem_append_right _ (List.mem_append_right _ (List.mem_append_left _ (List.mem_of_getElem? (l := tables_1_2) (i := 59) rfl)))) rfl
theorem q_2_50 : (.code yX3_isUsed cX3_isUsed 3 (some .boolean) : Cond) ∈ gT := gT_mem (List.mem_append_right _ (List.mem_append_right _ (List.mem_append_left _ (List.mem_of_getElem? (l := tables_1_2) (i := 50) rfl)))) rfl
theorem q_2_47 : (.methodLink RX0 149 yX3_isUsed : Cond) ∈ gT := gT_mem (List.mem_append_right _ (List.mem_append_right _ (List.mem_append_left _ (List.mem_of_getElem? (l := tables_1_2) (i := 47) rfl)))) rfl
theorem q_2_48 : (.instanceMethod yX3_isUsed : Cond) ∈ gT := gT_mem (List.mem_append_right _ (List.mem_append_right _ (List.mem_append_left _ (List.mem_of_getElem? (l := tables_1_2) (i := 48) rfl)))) rfl
theorem q_2_49 : (.selects RX3 yX3_isUsed yX3_isUsed : Cond) ∈ gT := gT_mem (List.mem_append_right _ (List.mem_append_right _ (List.mem_append_left _ (List.mem_of_getElem? (l := tables_1_2) (i := 49) rfl)))) rfl
theorem q_1_230 : (.fieldLink RX0 78 "InodeDesk" "checker" "LInodeDesk$Checker;" : Cond) ∈ gT := gT_mem (List.mem_append_right _ (List.mem_append_left _ (List.mem_of_getElem? (l := tables_1_1) (i := 230) rfl))) rfl
theorem q_1_178 : (.fieldLink RX7 65 "InodeDesk$Checker" "claimed" "[B" : Cond) ∈ gT := gT_mem (List.mem_append_right _ (List.mem_append_left _ (List.mem_of_getElem? (l := tables_1_1) (i := 178) rfl))) rfl
theorem q_2_72 : (.methodLink RX7 100 yJ2_fill : Cond) ∈ gT := gT_mem (List.mem_append_right _ (List.mem_append_right _ (List.mem_append_left _ (List.mem_of_getElem? (l := tables_1_2) (i := 72) rfl)))) rfl
theorem q_1_171 : (.fieldLink RX7 30 "InodeDesk$Checker" "layout" "LInodeDesk$Layout;" : Cond) ∈ gT := gT_mem (List.mem_append_right _ (List.mem_append_left _ (List.mem_of_getElem? (l := tables_1_1) (i := 171) rfl))) rfl
theorem q_2_73 : (.methodLink RX7 103 yX2_groups : Cond) ∈ gT := gT_mem (List.mem_append_right _ (List.mem_append_right _ (List.mem_append_left _ (List.mem_of_getElem? (l := tables_1_2) (i := 73) rfl)))) rfl
theorem q_2_77 : (.methodLink RX7 106 yX2_fixedBlocks : Cond) ∈ gT := gT_mem (List.mem_append_right _ (List.mem_append_right _ (List.mem_append_left _ (List.mem_of_getElem? (l := tables_1_2) (i := 77) rfl)))) rfl
theorem q_2_81 : (.methodLink RX7 109 yX2_firstBlock : Cond) ∈ gT := gT_mem (List.mem_append_right _ (List.mem_append_right _ (List.mem_append_left _ (List.mem_of_getElem? (l := tables_1_2) (i := 81) rfl)))) rfl
theorem q_2_88 : (.code yX7_claim cX7_claim 2 (some .boolean) : Cond) ∈ gT := gT_mem (List.mem_append_right _ (List.mem_append_right _ (List.mem_append_left _ (List.mem_of_getElem? (l := tables_1_2) (i := 88) rfl)))) rfl
theorem q_2_85 : (.methodLink RX7 113 yX7_claim : Cond) ∈ gT := gT_mem (List.mem_append_right _ (List.mem_append_right _ (List.mem_append_left _ (List.mem_of_getElem? (l := tables_1_2) (i := 85) rfl)))) rfl
theorem q_2_87 : (.instanceMethod yX7_claim : Cond) ∈ gT := gT_mem (List.mem_append_right _ (List.mem_append_right _ (List.mem_append_left _ (List.mem_of_getElem? (l := tables_1_2) (i := 87) rfl)))) rfl
theorem qp_1 : (.selects RX7 yX7_claim yX7_claim : Cond) ∈ gT := gT_mem (List.mem_append_left _ (List.mem_of_getElem? (l := k2_sels lw_privs) (i := 1) rfl)) rfl
theorem q_1_9 : (.initialized RX7 : Cond) ∈ gT := gT_mem (List.mem_append_right _ (List.mem_append_left _ (List.mem_of_getElem? (l := tables_1_1) (i := 9) rfl))) rfl
theorem q_2_71 : (.code yX7_claimFixed cX7_claimFixed 3 none : Cond) ∈ gT := gT_mem (List.mem_append_right _ (List.mem_append_right _ (List.mem_append_left _ (List.mem_of_getElem? (l := tables_1_2) (i := 71) rfl)))) rfl
theorem q_2_68 : (.methodLink RX7 69 yX7_claimFixed : Cond) ∈ gT := gT_mem (List.mem_append_right _ (List.mem_append_right _ (List.mem_append_left _ (List.mem_of_getElem? (l := tables_1_2) (i := 68) rfl)))) rfl
theorem q_2_70 : (.instanceMethod yX7_claimFixed : Cond) ∈ gT := gT_mem (List.mem_append_right _ (List.mem_append_right _ (List.mem_append_left _ (List.mem_of_getElem? (l := tables_1_2) (i := 70) rfl)))) rfl
theorem qp_0 : (.selects RX7 yX7_claimFixed yX7_claimFixed : Cond) ∈ gT := gT_mem (List.mem_append_left _ (List.mem_of_getElem? (l := k2_sels lw_privs) (i := 0) rfl)) rfl
theorem q_1_179 : (.fieldLink RX7 20 "InodeDesk$Checker" "holders" "[I" : Cond) ∈ gT := gT_mem (List.mem_append_right _ (List.mem_append_left _ (List.mem_of_getElem? (l := tables_1_1) (i := 179) rfl))) rfl
theorem q_2_91 : (.code yJ2_fill_ cJ2_fill_ 4 none : Cond) ∈ gT := gT_mem (List.mem_append_right _ (List.mem_append_right _ (List.mem_append_left _ (List.mem_of_getElem? (l := tables_1_2) (i := 91) rfl)))) rfl
theorem q_2_89 : (.methodLink RX7 72 yJ2_fill_ : Cond) ∈ gT := gT_mem (List.mem_append_right _ (List.mem_append_right _ (List.mem_append_left _ (List.mem_of_getElem? (l := tables_1_2) (i := 89) rfl)))) rfl
theorem q_2_90 : (.static yJ2_fill_ : Cond) ∈ gT := gT_mem (List.mem_append_right _ (List.mem_append_right _ (List.mem_append_left _ (List.mem_of_getElem? (l := tables_1_2) (i := 90) rfl)))) rfl
theorem q_1_180 : (.fieldLink RX7 24 "InodeDesk$Checker" "parents" "[I" : Cond) ∈ gT := gT_mem (List.mem_append_right _ (List.mem_append_left _ (List.mem_of_getElem? (l := tables_1_1) (i := 180) rfl))) rfl
theorem q_2_96 : (.methodLink RX7 116 yX2_inodes : Cond) ∈ gT := gT_mem (List.mem_append_right _ (List.mem_append_right _ (List.mem_append_left _ (List.mem_of_getElem? (l := tables_1_2) (i := 96) rfl)))) rfl
theorem q_2_100 : (.methodLink RX7 118 yX2_inodeAt : Cond) ∈ gT := gT_mem (List.mem_append_right _ (List.mem_append_right _ (List.mem_append_left _ (List.mem_of_getElem? (l := tables_1_2) (i := 100) rfl)))) rfl
theorem q_1_170 : (.fieldLink RX7 27 "InodeDesk$Checker" "disk" "LInodeDesk$Disk;" : Cond) ∈ gT := gT_mem (List.mem_append_right _ (List.mem_append_left _ (List.mem_of_getElem? (l := tables_1_1) (i := 170) rfl))) rfl
theorem q_2_127 : (.methodLink RX1 37 yX1_get : Cond) ∈ gT := gT_mem (List.mem_append_right _ (List.mem_append_right _ (List.mem_append_left _ (List.mem_of_getElem? (l := tables_1_2) (i := 127) rfl)))) rfl
theorem q_2_126 : (.methodLink RX1 33 yX1_get4 : Cond) ∈ gT := gT_mem (List.mem_append_right _ (List.mem_append_right _ (List.mem_append_left _ (List.mem_of_getElem? (l := tables_1_2) (i := 126) rfl)))) rfl
theorem q_2_125 : (.code yX1_isZero cX1_isZero 4 (some .boolean) : Cond) ∈ gT := gT_mem (List.mem_append_right _ (List.mem_append_right _ (List.mem_append_left _ (List.mem_of_getElem? (l := tables_1_2) (i := 125) rfl)))) rfl
theorem q_2_122 : (.methodLink RX7 129 yX1_isZero : Cond) ∈ gT := gT_mem (List.mem_append_right _ (List.mem_append_right _ (List.mem_append_left _ (List.mem_of_getElem? (l := tables_1_2) (i := 122) rfl)))) rfl
theorem q_2_123 : (.instanceMethod yX1_isZero : Cond) ∈ gT := gT_mem (List.mem_append_right _ (List.mem_append_right _ (List.mem_append_left _ (List.mem_of_getElem? (l := tables_1_2) (i := 123) rfl)))) rfl
theorem q_2_124 : (.selects RX1 yX1_isZero yX1_isZero : Cond) ∈ gT := gT_mem (List.mem_append_right _ (List.mem_append_right _ (List.mem_append_left _ (List.mem_of_getElem? (l := tables_1_2) (i := 124) rfl)))) rfl
theorem q_2_109 : (.methodLink RX7 133 yX1_get2 : Cond) ∈ gT := gT_mem (List.mem_append_right _ (List.mem_append_right _ (List.mem_append_left _ (List.mem_of_getElem? (l := tables_1_2) (i := 109) rfl)))) rfl
theorem q_2_113 : (.methodLink RX7 136 yX1_get4 : Cond) ∈ gT := gT_mem (List.mem_append_right _ (List.mem_append_right _ (List.mem_append_left _ (List.mem_of_getElem? (l := tables_1_2) (i := 113) rfl)))) rfl
theorem q_2_118 : (.methodLink RX7 140 yX1_length : Cond) ∈ gT := gT_mem (List.mem_append_right _ (List.mem_append_right _ (List.mem_append_left _ (List.mem_of_getElem? (l := tables_1_2) (i := 118) rfl)))) rfl
theorem q_2_119 : (.methodLink RX7 143 yX4_blocksFor : Cond) ∈ gT := gT_mem (List.mem_append_right _ (List.mem_append_right _ (List.mem_append_left _ (List.mem_of_getElem? (l := tables_1_2) (i := 119) rfl)))) rfl
theorem q_2_130 : (.code yX4_withIndirect cX4_withIndirect 1 (some .int) : Cond) ∈ gT := gT_mem (List.mem_append_right _ (List.mem_append_right _ (List.mem_append_left _ (List.mem_of_getElem? (l := tables_1_2) (i := 130) rfl)))) rfl
theorem q_2_128 : (.methodLink RX7 146 yX4_withIndirect : Cond) ∈ gT := gT_mem (List.mem_append_right _ (List.mem_append_right _ (List.mem_append_left _ (List.mem_of_getElem? (l := tables_1_2) (i := 128) rfl)))) rfl
theorem q_2_129 : (.static yX4_withIndirect : Cond) ∈ gT := gT_mem (List.mem_append_right _ (List.mem_append_right _ (List.mem_append_left _ (List.mem_of_getElem? (l := tables_1_2) (i := 129) rfl)))) rfl
theorem q_1_169 : (.methodLink RX7 59 Lib.Math.max.name : Cond) ∈ gT := gT_mem (List.mem_append_right _ (List.mem_append_left _ (List.mem_of_getElem? (l := tables_1_1) (i := 169) (by decide +kernel)))) rfl
theorem q_1_44 : (.static Lib.Math.max.name : Cond) ∈ gT := gT_mem (List.mem_append_right _ (List.mem_append_left _ (List.mem_of_getElem? (l := tables_1_1) (i := 44) (by decide +kernel)))) rfl
theorem q_1_45 : (.code Lib.Math.max.name Lib.Math.max.code 2 (some .int) : Cond) ∈ gT := gT_mem (List.mem_append_right _ (List.mem_append_left _ (List.mem_of_getElem? (l := tables_1_1) (i := 45) (by decide +kernel)))) rfl
theorem q_2_138 : (.code yX7_rowHolds cX7_rowHolds 6 (some .boolean) : Cond) ∈ gT := gT_mem (List.mem_append_right _ (List.mem_append_right _ (List.mem_append_left _ (List.mem_of_getElem? (l := tables_1_2) (i := 138) rfl)))) rfl
theorem q_2_135 : (.methodLink RX7 152 yX7_rowHolds : Cond) ∈ gT := gT_mem (List.mem_append_right _ (List.mem_append_right _ (List.mem_append_left _ (List.mem_of_getElem? (l := tables_1_2) (i := 135) rfl)))) rfl
theorem q_2_137 : (.instanceMethod yX7_rowHolds : Cond) ∈ gT := gT_mem (List.mem_append_right _ (List.mem_append_right _ (List.mem_append_left _ (List.mem_of_getElem? (l := tables_1_2) (i := 137) rfl)))) rfl
theorem qp_5 : (.selects RX7 yX7_rowHolds yX7_rowHolds : Cond) ∈ gT := gT_mem (List.mem_append_left _ (List.mem_of_getElem? (l := k2_sels lw_privs) (i := 5) rfl)) rfl
theorem q_2_134 : (.code yX7_pointersHold cX7_pointersHold 8 (some .boolean) : Cond) ∈ gT := gT_mem (List.mem_append_right _ (List.mem_append_right _ (List.mem_append_left _ (List.mem_of_getElem? (l := tables_1_2) (i := 134) rfl)))) rfl
theorem q_2_131 : (.methodLink RX7 149 yX7_pointersHold : Cond) ∈ gT := gT_mem (List.mem_append_right _ (List.mem_append_right _ (List.mem_append_left _ (List.mem_of_getElem? (l := tables_1_2) (i := 131) rfl)))) rfl
theorem q_2_133 : (.instanceMethod yX7_pointersHold : Cond) ∈ gT := gT_mem (List.mem_append_right _ (List.mem_append_right _ (List.mem_append_left _ (List.mem_of_getElem? (l := tables_1_2) (i := 133) rfl)))) rfl
theorem qp_4 : (.selects RX7 yX7_pointersHold yX7_pointersHold : Cond) ∈ gT := gT_mem (List.mem_append_left _ (List.mem_of_getElem? (l := k2_sels lw_privs) (i := 4) rfl)) rfl
theorem q_2_117 : (.constant RX7 139 (33188 : Int32) : Cond) ∈ gT := gT_mem (List.mem_append_right _ (List.mem_append_right _ (List.mem_append_left _ (List.mem_of_getElem? (l := tables_1_2) (i := 117) rfl)))) rfl
theorem q_2_108 : (.code yX7_inodeHolds cX7_inodeHolds 5 (some .boolean) : Cond) ∈ gT := gT_mem (List.mem_append_right _ (List.mem_append_right _ (List.mem_append_left _ (List.mem_of_getElem? (l := tables_1_2) (i := 108) rfl)))) rfl
theorem q_2_105 : (.methodLink RX7 126 yX7_inodeHolds : Cond) ∈ gT := gT_mem (List.mem_append_right _ (List.mem_append_right _ (List.mem_append_left _ (List.mem_of_getElem? (l := tables_1_2) (i := 105) rfl)))) rfl
theorem q_2_107 : (.instanceMethod yX7_inodeHolds : Cond) ∈ gT := gT_mem (List.mem_append_right _ (List.mem_append_right _ (List.mem_append_left _ (List.mem_of_getElem? (l := tables_1_2) (i := 107) rfl)))) rfl
theorem qp_3 : (.selects RX7 yX7_inodeHolds yX7_inodeHolds : Cond) ∈ gT := gT_mem (List.mem_append_left _ (List.mem_of_getElem? (l := k2_sels lw_privs) (i := 3) rfl)) rfl
theorem q_1_173 : (.fieldLink RX7 38 "InodeDesk$Checker" "inodePool" "LInodeDesk$Pool;" : Cond) ∈ gT := gT_mem (List.mem_append_right _ (List.mem_append_left _ (List.mem_of_getElem? (l := tables_1_1) (i := 173) rfl))) rfl
theorem q_2_104 : (.methodLink RX7 121 yX3_isUsed : Cond) ∈ gT := gT_mem (List.mem_append_right _ (List.mem_append_right _ (List.mem_append_left _ (List.mem_of_getElem? (l := tables_1_2) (i := 104) rfl)))) rfl
theorem q_2_95 : (.code yX7_inodesHold cX7_inodesHold 4 (some .boolean) : Cond) ∈ gT := gT_mem (List.mem_append_right _ (List.mem_append_right _ (List.mem_append_left _ (List.mem_of_getElem? (l := tables_1_2) (i := 95) rfl)))) rfl
theorem q_2_92 : (.methodLink RX7 78 yX7_inodesHold : Cond) ∈ gT := gT_mem (List.mem_append_right _ (List.mem_append_right _ (List.mem_append_left _ (List.mem_of_getElem? (l := tables_1_2) (i := 92) rfl)))) rfl
theorem q_2_94 : (.instanceMethod yX7_inodesHold : Cond) ∈ gT := gT_mem (List.mem_append_right _ (List.mem_append_right _ (List.mem_append_left _ (List.mem_of_getElem? (l := tables_1_2) (i := 94) rfl)))) rfl
theorem qp_2 : (.selects RX7 yX7_inodesHold yX7_inodesHold : Cond) ∈ gT := gT_mem (List.mem_append_left _ (List.mem_of_getElem? (l := k2_sels lw_privs) (i := 2) rfl)) rfl
theorem q_1_174 : (.fieldLink RX7 41 "InodeDesk$Checker" "inodes" "LInodeDesk$Inodes;" : Cond) ∈ gT := gT_mem (List.mem_append_right _ (List.mem_append_left _ (List.mem_of_getElem? (l := tables_1_1) (i := 174) rfl))) rfl
theorem q_2_146 : (.code yX4_isDirectory cX4_isDirectory 2 (some .boolean) : Cond) ∈ gT := gT_mem (List.mem_append_right _ (List.mem_append_right _ (List.mem_append_left _ (List.mem_of_getElem? (l := tables_1_2) (i := 146) rfl)))) rfl
theorem q_2_143 : (.methodLink RX7 94 yX4_isDirectory : Cond) ∈ gT := gT_mem (List.mem_append_right _ (List.mem_append_right _ (List.mem_append_left _ (List.mem_of_getElem? (l := tables_1_2) (i := 143) rfl)))) rfl
theorem q_2_144 : (.instanceMethod yX4_isDirectory : Cond) ∈ gT := gT_mem (List.mem_append_right _ (List.mem_append_right _ (List.mem_append_left _ (List.mem_of_getElem? (l := tables_1_2) (i := 144) rfl)))) rfl
theorem q_2_145 : (.selects RX4 yX4_isDirectory yX4_isDirectory : Cond) ∈ gT := gT_mem (List.mem_append_right _ (List.mem_append_right _ (List.mem_append_left _ (List.mem_of_getElem? (l := tables_1_2) (i := 145) rfl)))) rfl
theorem q_1_175 : (.fieldLink RX7 45 "InodeDesk$Checker" "listing" "LInodeDesk$Listing;" : Cond) ∈ gT := gT_mem (List.mem_append_right _ (List.mem_append_left _ (List.mem_of_getElem? (l := tables_1_1) (i := 175) rfl))) rfl
theorem q_1_127 : (.fieldLink RX5 23 "InodeDesk$Listing" "count" "I" : Cond) ∈ gT := gT_mem (List.mem_append_right _ (List.mem_append_left _ (List.mem_of_getElem? (l := tables_1_1) (i := 127) rfl))) rfl
theorem q_1_125 : (.fieldLink RX5 19 "InodeDesk$Listing" "inodes" "LInodeDesk$Inodes;" : Cond) ∈ gT := gT_mem (List.mem_append_right _ (List.mem_append_left _ (List.mem_of_getElem? (l := tables_1_1) (i := 125) rfl))) rfl
theorem q_2_153 : (.methodLink RX5 27 yX4_size : Cond) ∈ gT := gT_mem (List.mem_append_right _ (List.mem_append_right _ (List.mem_append_left _ (List.mem_of_getElem? (l := tables_1_2) (i := 153) rfl)))) rfl
theorem q_2_158 : (.methodLink RX5 33 yX4_blocksFor : Cond) ∈ gT := gT_mem (List.mem_append_right _ (List.mem_append_right _ (List.mem_append_left _ (List.mem_of_getElem? (l := tables_1_2) (i := 158) rfl)))) rfl
theorem q_2_159 : (.methodLink RX5 36 Lib.Math.min.name : Cond) ∈ gT := gT_mem (List.mem_append_right _ (List.mem_append_right _ (List.mem_append_left _ (List.mem_of_getElem? (l := tables_1_2) (i := 159) (by decide +kernel))))) rfl
theorem q_2_160 : (.methodLink RX5 42 yX4_blockOf : Cond) ∈ gT := gT_mem (List.mem_append_right _ (List.mem_append_right _ (List.mem_append_left _ (List.mem_of_getElem? (l := tables_1_2) (i := 160) rfl)))) rfl
theorem q_1_126 : (.fieldLink RX5 9 "InodeDesk$Listing" "entries" "[I" : Cond) ∈ gT := gT_mem (List.mem_append_right _ (List.mem_append_left _ (List.mem_of_getElem? (l := tables_1_1) (i := 126) rfl))) rfl
theorem q_2_168 : (.methodLink RX5 45 yX1_get2 : Cond) ∈ gT := gT_mem (List.mem_append_right _ (List.mem_append_right _ (List.mem_append_left _ (List.mem_of_getElem? (l := tables_1_2) (i := 168) rfl)))) rfl
theorem q_2_169 : (.methodLink RX5 50 Lib.Math.max.name : Cond) ∈ gT := gT_mem (List.mem_append_right _ (List.mem_append_right _ (List.mem_append_left _ (List.mem_of_getElem? (l := tables_1_2) (i := 169) (by decide +kernel))))) rfl
theorem q_2_152 : (.code yX5_read cX5_read 6 none : Cond) ∈ gT := gT_mem (List.mem_append_right _ (List.mem_append_right _ (List.mem_append_left _ (List.mem_of_getElem? (l := tables_1_2) (i := 152) rfl)))) rfl
theorem q_2_149 : (.methodLink RX7 156 yX5_read : Cond) ∈ gT := gT_mem (List.mem_append_right _ (List.mem_append_right _ (List.mem_append_left _ (List.mem_of_getElem? (l := tables_1_2) (i := 149) rfl)))) rfl
theorem q_2_150 : (.instanceMethod yX5_read : Cond) ∈ gT := gT_mem (List.mem_append_right _ (List.mem_append_right _ (List.mem_append_left _ (List.mem_of_getElem? (l := tables_1_2) (i := 150) rfl)))) rfl
theorem q_2_151 : (.selects RX5 yX5_read yX5_read : Cond) ∈ gT := gT_mem (List.mem_append_right _ (List.mem_append_right _ (List.mem_append_left _ (List.mem_of_getElem? (l := tables_1_2) (i := 151) rfl)))) rfl
theorem q_2_170 : (.methodLink RX7 161 yX4_size : Cond) ∈ gT := gT_mem (List.mem_append_right _ (List.mem_append_right _ (List.mem_append_left _ (List.mem_of_getElem? (l := tables_1_2) (i := 170) rfl)))) rfl
theorem q_2_178 : (.code yX5_count cX5_count 1 (some .int) : Cond) ∈ gT := gT_mem (List.mem_append_right _ (List.mem_append_right _ (List.mem_append_left _ (List.mem_of_getElem? (l := tables_1_2) (i := 178) rfl)))) rfl
theorem q_2_175 : (.methodLink RX7 173 yX5_count : Cond) ∈ gT := gT_mem (List.mem_append_right _ (List.mem_append_right _ (List.mem_append_left _ (List.mem_of_getElem? (l := tables_1_2) (i := 175) rfl)))) rfl
theorem q_2_176 : (.instanceMethod yX5_count : Cond) ∈ gT := gT_mem (List.mem_append_right _ (List.mem_append_right _ (List.mem_append_left _ (List.mem_of_getElem? (l := tables_1_2) (i := 176) rfl)))) rfl
theorem q_2_177 : (.selects RX5 yX5_count yX5_count : Cond) ∈ gT := gT_mem (List.mem_append_right _ (List.mem_append_right _ (List.mem_append_left _ (List.mem_of_getElem? (l := tables_1_2) (i := 177) rfl)))) rfl
theorem q_2_186 : (.code yX5_entryAt cX5_entryAt 2 (some .int) : Cond) ∈ gT := gT_mem (List.mem_append_right _ (List.mem_append_right _ (List.mem_append_left _ (List.mem_of_getElem? (l := tables_1_2) (i := 186) rfl)))) rfl
theorem q_2_183 : (.methodLink RX7 200 yX5_entryAt : Cond) ∈ gT := gT_mem (List.mem_append_right _ (List.mem_append_right _ (List.mem_append_left _ (List.mem_of_getElem? (l := tables_1_2) (i := 183) rfl)))) rfl
theorem q_2_184 : (.instanceMethod yX5_entryAt : Cond) ∈ gT := gT_mem (List.mem_append_right _ (List.mem_append_right _ (List.mem_append_left _ (List.mem_of_getElem? (l := tables_1_2) (i := 184) rfl)))) rfl
theorem q_2_185 : (.selects RX5 yX5_entryAt yX5_entryAt : Cond) ∈ gT := gT_mem (List.mem_append_right _ (List.mem_append_right _ (List.mem_append_left _ (List.mem_of_getElem? (l := tables_1_2) (i := 185) rfl)))) rfl
theorem q_2_191 : (.methodLink RX5 53 yX5_entryAt : Cond) ∈ gT := gT_mem (List.mem_append_right _ (List.mem_append_right _ (List.mem_append_left _ (List.mem_of_getElem? (l := tables_1_2) (i := 191) rfl)))) rfl
theorem q_2_190 : (.code yX5_lengthOf cX5_lengthOf 2 (some .int) : Cond) ∈ gT := gT_mem (List.mem_append_right _ (List.mem_append_right _ (List.mem_append_left _ (List.mem_of_getElem? (l := tables_1_2) (i := 190) rfl)))) rfl
theorem q_2_187 : (.methodLink RX7 182 yX5_lengthOf : Cond) ∈ gT := gT_mem (List.mem_append_right _ (List.mem_append_right _ (List.mem_append_left _ (List.mem_of_getElem? (l := tables_1_2) (i := 187) rfl)))) rfl
theorem q_2_188 : (.instanceMethod yX5_lengthOf : Cond) ∈ gT := gT_mem (List.mem_append_right _ (List.mem_append_right _ (List.mem_append_left _ (List.mem_of_getElem? (l := tables_1_2) (i := 188) rfl)))) rfl
theorem q_2_189 : (.selects RX5 yX5_lengthOf yX5_lengthOf : Cond) ∈ gT := gT_mem (List.mem_append_right _ (List.mem_append_right _ (List.mem_append_left _ (List.mem_of_getElem? (l := tables_1_2) (i := 189) rfl)))) rfl
theorem q_2_196 : (.methodLink RX5 56 yX1_get4 : Cond) ∈ gT := gT_mem (List.mem_append_right _ (List.mem_append_right _ (List.mem_append_left _ (List.mem_of_getElem? (l := tables_1_2) (i := 196) rfl)))) rfl
theorem q_2_195 : (.code yX5_inodeOf cX5_inodeOf 2 (some .int) : Cond) ∈ gT := gT_mem (List.mem_append_right _ (List.mem_append_right _ (List.mem_append_left _ (List.mem_of_getElem? (l := tables_1_2) (i := 195) rfl)))) rfl
theorem q_2_192 : (.methodLink RX7 179 yX5_inodeOf : Cond) ∈ gT := gT_mem (List.mem_append_right _ (List.mem_append_right _ (List.mem_append_left _ (List.mem_of_getElem? (l := tables_1_2) (i := 192) rfl)))) rfl
theorem q_2_193 : (.instanceMethod yX5_inodeOf : Cond) ∈ gT := gT_mem (List.mem_append_right _ (List.mem_append_right _ (List.mem_append_left _ (List.mem_of_getElem? (l := tables_1_2) (i := 193) rfl)))) rfl
theorem q_2_194 : (.selects RX5 yX5_inodeOf yX5_inodeOf : Cond) ∈ gT := gT_mem (List.mem_append_right _ (List.mem_append_right _ (List.mem_append_left _ (List.mem_of_getElem? (l := tables_1_2) (i := 194) rfl)))) rfl
theorem q_2_201 : (.methodLink RX5 59 yX1_get : Cond) ∈ gT := gT_mem (List.mem_append_right _ (List.mem_append_right _ (List.mem_append_left _ (List.mem_of_getElem? (l := tables_1_2) (i := 201) rfl)))) rfl
theorem q_2_208 : (.code yX5_nameLengthOf cX5_nameLengthOf 2 (some .int) : Cond) ∈ gT := gT_mem (List.mem_append_right _ (List.mem_append_right _ (List.mem_append_left _ (List.mem_of_getElem? (l := tables_1_2) (i := 208) rfl)))) rfl
theorem q_2_205 : (.methodLink RX7 185 yX5_nameLengthOf : Cond) ∈ gT := gT_mem (List.mem_append_right _ (List.mem_append_right _ (List.mem_append_left _ (List.mem_of_getElem? (l := tables_1_2) (i := 205) rfl)))) rfl
theorem q_2_206 : (.instanceMethod yX5_nameLengthOf : Cond) ∈ gT := gT_mem (List.mem_append_right _ (List.mem_append_right _ (List.mem_append_left _ (List.mem_of_getElem? (l := tables_1_2) (i := 206) rfl)))) rfl
theorem q_2_207 : (.selects RX5 yX5_nameLengthOf yX5_nameLengthOf : Cond) ∈ gT := gT_mem (List.mem_append_right _ (List.mem_append_right _ (List.mem_append_left _ (List.mem_of_getElem? (l := tables_1_2) (i := 207) rfl)))) rfl
theorem q_2_209 : (.methodLink RX7 206 yX1_get : Cond) ∈ gT := gT_mem (List.mem_append_right _ (List.mem_append_right _ (List.mem_append_left _ (List.mem_of_getElem? (l := tables_1_2) (i := 209) rfl)))) rfl
theorem q_2_204 : (.code yX5_spaceFor cX5_spaceFor 1 (some .int) : Cond) ∈ gT := gT_mem (List.mem_append_right _ (List.mem_append_right _ (List.mem_append_left _ (List.mem_of_getElem? (l := tables_1_2) (i := 204) rfl)))) rfl
theorem q_2_202 : (.methodLink RX5 62 yX5_spaceFor : Cond) ∈ gT := gT_mem (List.mem_append_right _ (List.mem_append_right _ (List.mem_append_left _ (List.mem_of_getElem? (l := tables_1_2) (i := 202) rfl)))) rfl
theorem q_2_203 : (.static yX5_spaceFor : Cond) ∈ gT := gT_mem (List.mem_append_right _ (List.mem_append_right _ (List.mem_append_left _ (List.mem_of_getElem? (l := tables_1_2) (i := 203) rfl)))) rfl
theorem q_2_200 : (.code yX5_usedBy cX5_usedBy 3 (some .int) : Cond) ∈ gT := gT_mem (List.mem_append_right _ (List.mem_append_right _ (List.mem_append_left _ (List.mem_of_getElem? (l := tables_1_2) (i := 200) rfl)))) rfl
theorem q_2_197 : (.methodLink RX7 203 yX5_usedBy : Cond) ∈ gT := gT_mem (List.mem_append_right _ (List.mem_append_right _ (List.mem_append_left _ (List.mem_of_getElem? (l := tables_1_2) (i := 197) rfl)))) rfl
theorem q_2_198 : (.instanceMethod yX5_usedBy : Cond) ∈ gT := gT_mem (List.mem_append_right _ (List.mem_append_right _ (List.mem_append_left _ (List.mem_of_getElem? (l := tables_1_2) (i := 198) rfl)))) rfl
theorem q_2_199 : (.selects RX5 yX5_usedBy yX5_usedBy : Cond) ∈ gT := gT_mem (List.mem_append_right _ (List.mem_append_right _ (List.mem_append_left _ (List.mem_of_getElem? (l := tables_1_2) (i := 199) rfl)))) rfl
theorem q_2_182 : (.code yX7_entryHolds cX7_entryHolds 8 (some .boolean) : Cond) ∈ gT := gT_mem (List.mem_append_right _ (List.mem_append_right _ (List.mem_append_left _ (List.mem_of_getElem? (l := tables_1_2) (i := 182) rfl)))) rfl
theorem q_2_179 : (.methodLink RX7 176 yX7_entryHolds : Cond) ∈ gT := gT_mem (List.mem_append_right _ (List.mem_append_right _ (List.mem_append_left _ (List.mem_of_getElem? (l := tables_1_2) (i := 179) rfl)))) rfl
theorem q_2_181 : (.instanceMethod yX7_entryHolds : Cond) ∈ gT := gT_mem (List.mem_append_right _ (List.mem_append_right _ (List.mem_append_left _ (List.mem_of_getElem? (l := tables_1_2) (i := 181) rfl)))) rfl
theorem qp_9 : (.selects RX7 yX7_entryHolds yX7_entryHolds : Cond) ∈ gT := gT_mem (List.mem_append_left _ (List.mem_of_getElem? (l := k2_sels lw_privs) (i := 9) rfl)) rfl
theorem q_2_213 : (.code yX5_letterOf cX5_letterOf 5 (some .int) : Cond) ∈ gT := gT_mem (List.mem_append_right _ (List.mem_append_right _ (List.mem_append_left _ (List.mem_of_getElem? (l := tables_1_2) (i := 213) rfl)))) rfl
theorem q_2_210 : (.methodLink RX7 188 yX5_letterOf : Cond) ∈ gT := gT_mem (List.mem_append_right _ (List.mem_append_right _ (List.mem_append_left _ (List.mem_of_getElem? (l := tables_1_2) (i := 210) rfl)))) rfl
theorem q_2_211 : (.instanceMethod yX5_letterOf : Cond) ∈ gT := gT_mem (List.mem_append_right _ (List.mem_append_right _ (List.mem_append_left _ (List.mem_of_getElem? (l := tables_1_2) (i := 211) rfl)))) rfl
theorem q_2_212 : (.selects RX5 yX5_letterOf yX5_letterOf : Cond) ∈ gT := gT_mem (List.mem_append_right _ (List.mem_append_right _ (List.mem_append_left _ (List.mem_of_getElem? (l := tables_1_2) (i := 212) rfl)))) rfl
theorem q_2_218 : (.methodLink RX5 65 yX5_inodeOf : Cond) ∈ gT := gT_mem (List.mem_append_right _ (List.mem_append_right _ (List.mem_append_left _ (List.mem_of_getElem? (l := tables_1_2) (i := 218) rfl)))) rfl
theorem q_2_217 : (.code yX5_parent cX5_parent 1 (some .int) : Cond) ∈ gT := gT_mem (List.mem_append_right _ (List.mem_append_right _ (List.mem_append_left _ (List.mem_of_getElem? (l := tables_1_2) (i := 217) rfl)))) rfl
theorem q_2_214 : (.methodLink RX7 170 yX5_parent : Cond) ∈ gT := gT_mem (List.mem_append_right _ (List.mem_append_right _ (List.mem_append_left _ (List.mem_of_getElem? (l := tables_1_2) (i := 214) rfl)))) rfl
theorem q_2_215 : (.instanceMethod yX5_parent : Cond) ∈ gT := gT_mem (List.mem_append_right _ (List.mem_append_right _ (List.mem_append_left _ (List.mem_of_getElem? (l := tables_1_2) (i := 215) rfl)))) rfl
theorem q_2_216 : (.selects RX5 yX5_parent yX5_parent : Cond) ∈ gT := gT_mem (List.mem_append_right _ (List.mem_append_right _ (List.mem_append_left _ (List.mem_of_getElem? (l := tables_1_2) (i := 216) rfl)))) rfl
theorem q_2_174 : (.code yX7_dotsHold cX7_dotsHold 2 (some .boolean) : Cond) ∈ gT := gT_mem (List.mem_append_right _ (List.mem_append_right _ (List.mem_append_left _ (List.mem_of_getElem? (l := tables_1_2) (i := 174) rfl)))) rfl
theorem q_2_171 : (.methodLink RX7 164 yX7_dotsHold : Cond) ∈ gT := gT_mem (List.mem_append_right _ (List.mem_append_right _ (List.mem_append_left _ (List.mem_of_getElem? (l := tables_1_2) (i := 171) rfl)))) rfl
theorem q_2_173 : (.instanceMethod yX7_dotsHold : Cond) ∈ gT := gT_mem (List.mem_append_right _ (List.mem_append_right _ (List.mem_append_left _ (List.mem_of_getElem? (l := tables_1_2) (i := 173) rfl)))) rfl
theorem qp_8 : (.selects RX7 yX7_dotsHold yX7_dotsHold : Cond) ∈ gT := gT_mem (List.mem_append_left _ (List.mem_of_getElem? (l := k2_sels lw_privs) (i := 8) rfl)) rfl
theorem q_2_238 : (.code yX4_links cX4_links 2 (some .int) : Cond) ∈ gT := gT_mem (List.mem_append_right _ (List.mem_append_right _ (List.mem_append_left _ (List.mem_of_getElem? (l := tables_1_2) (i := 238) rfl)))) rfl
theorem q_2_235 : (.methodLink RX7 197 yX4_links : Cond) ∈ gT := gT_mem (List.mem_append_right _ (List.mem_append_right _ (List.mem_append_left _ (List.mem_of_getElem? (l := tables_1_2) (i := 235) rfl)))) rfl
theorem q_2_236 : (.instanceMethod yX4_links : Cond) ∈ gT := gT_mem (List.mem_append_right _ (List.mem_append_right _ (List.mem_append_left _ (List.mem_of_getElem? (l := tables_1_2) (i := 236) rfl)))) rfl
theorem q_2_237 : (.selects RX4 yX4_links yX4_links : Cond) ∈ gT := gT_mem (List.mem_append_right _ (List.mem_append_right _ (List.mem_append_left _ (List.mem_of_getElem? (l := tables_1_2) (i := 237) rfl)))) rfl
theorem q_2_230 : (.code yX7_sameName cX7_sameName 8 (some .boolean) : Cond) ∈ gT := gT_mem (List.mem_append_right _ (List.mem_append_right _ (List.mem_append_left _ (List.mem_of_getElem? (l := tables_1_2) (i := 230) rfl)))) rfl
theorem q_2_227 : (.methodLink RX7 209 yX7_sameName : Cond) ∈ gT := gT_mem (List.mem_append_right _ (List.mem_append_right _ (List.mem_append_left _ (List.mem_of_getElem? (l := tables_1_2) (i := 227) rfl)))) rfl
theorem q_2_229 : (.instanceMethod yX7_sameName : Cond) ∈ gT := gT_mem (List.mem_append_right _ (List.mem_append_right _ (List.mem_append_left _ (List.mem_of_getElem? (l := tables_1_2) (i := 229) rfl)))) rfl
theorem qp_12 : (.selects RX7 yX7_sameName yX7_sameName : Cond) ∈ gT := gT_mem (List.mem_append_left _ (List.mem_of_getElem? (l := k2_sels lw_privs) (i := 12) rfl)) rfl
theorem q_2_226 : (.code yX7_nameHolds cX7_nameHolds 5 (some .boolean) : Cond) ∈ gT := gT_mem (List.mem_append_right _ (List.mem_append_right _ (List.mem_append_left _ (List.mem_of_getElem? (l := tables_1_2) (i := 226) rfl)))) rfl
theorem q_2_223 : (.methodLink RX7 191 yX7_nameHolds : Cond) ∈ gT := gT_mem (List.mem_append_right _ (List.mem_append_right _ (List.mem_append_left _ (List.mem_of_getElem? (l := tables_1_2) (i := 223) rfl)))) rfl
theorem q_2_225 : (.instanceMethod yX7_nameHolds : Cond) ∈ gT := gT_mem (List.mem_append_right _ (List.mem_append_right _ (List.mem_append_left _ (List.mem_of_getElem? (l := tables_1_2) (i := 225) rfl)))) rfl
theorem qp_11 : (.selects RX7 yX7_nameHolds yX7_nameHolds : Cond) ∈ gT := gT_mem (List.mem_append_left _ (List.mem_of_getElem? (l := k2_sels lw_privs) (i := 11) rfl)) rfl
theorem q_2_234 : (.code yX7_hold cX7_hold 3 (some .boolean) : Cond) ∈ gT := gT_mem (List.mem_append_right _ (List.mem_append_right _ (List.mem_append_left _ (List.mem_of_getElem? (l := tables_1_2) (i := 234) rfl)))) rfl
theorem q_2_231 : (.methodLink RX7 194 yX7_hold : Cond) ∈ gT := gT_mem (List.mem_append_right _ (List.mem_append_right _ (List.mem_append_left _ (List.mem_of_getElem? (l := tables_1_2) (i := 231) rfl)))) rfl
theorem q_2_233 : (.instanceMethod yX7_hold : Cond) ∈ gT := gT_mem (List.mem_append_right _ (List.mem_append_right _ (List.mem_append_left _ (List.mem_of_getElem? (l := tables_1_2) (i := 233) rfl)))) rfl
theorem qp_13 : (.selects RX7 yX7_hold yX7_hold : Cond) ∈ gT := gT_mem (List.mem_append_left _ (List.mem_of_getElem? (l := k2_sels lw_privs) (i := 13) rfl)) rfl
theorem q_2_222 : (.code yX7_itemsHold cX7_itemsHold 5 (some .boolean) : Cond) ∈ gT := gT_mem (List.mem_append_right _ (List.mem_append_right _ (List.mem_append_left _ (List.mem_of_getElem? (l := tables_1_2) (i := 222) rfl)))) rfl
theorem q_2_219 : (.methodLink RX7 167 yX7_itemsHold : Cond) ∈ gT := gT_mem (List.mem_append_right _ (List.mem_append_right _ (List.mem_append_left _ (List.mem_of_getElem? (l := tables_1_2) (i := 219) rfl)))) rfl
theorem q_2_221 : (.instanceMethod yX7_itemsHold : Cond) ∈ gT := gT_mem (List.mem_append_right _ (List.mem_append_right _ (List.mem_append_left _ (List.mem_of_getElem? (l := tables_1_2) (i := 221) rfl)))) rfl
theorem qp_10 : (.selects RX7 yX7_itemsHold yX7_itemsHold : Cond) ∈ gT := gT_mem (List.mem_append_left _ (List.mem_of_getElem? (l := k2_sels lw_privs) (i := 10) rfl)) rfl
theorem q_2_142 : (.code yX7_directoriesHold cX7_directoriesHold 2 (some .boolean) : Cond) ∈ gT := gT_mem (List.mem_append_right _ (List.mem_append_right _ (List.mem_append_left _ (List.mem_of_getElem? (l := tables_1_2) (i := 142) rfl)))) rfl
theorem q_2_139 : (.methodLink RX7 82 yX7_directoriesHold : Cond) ∈ gT := gT_mem (List.mem_append_right _ (List.mem_append_right _ (List.mem_append_left _ (List.mem_of_getElem? (l := tables_1_2) (i := 139) rfl)))) rfl
theorem q_2_141 : (.instanceMethod yX7_directoriesHold : Cond) ∈ gT := gT_mem (List.mem_append_right _ (List.mem_append_right _ (List.mem_append_left _ (List.mem_of_getElem? (l := tables_1_2) (i := 141) rfl)))) rfl
theorem qp_6 : (.selects RX7 yX7_directoriesHold yX7_directoriesHold : Cond) ∈ gT := gT_mem (List.mem_append_left _ (List.mem_of_getElem? (l := k2_sels lw_privs) (i := 6) rfl)) rfl
theorem q_3_14 : (.code yX7_parentOf cX7_parentOf 2 (some .int) : Cond) ∈ gT := gT_mem (List.mem_append_right _ (List.mem_append_right _ (List.mem_append_right _ (List.mem_append_left _ (List.mem_of_getElem? (l := tables_1_3) (i := 14) rfl))))) rfl
theorem q_3_11 : (.methodLink RX7 218 yX7_parentOf : Cond) ∈ gT := gT_mem (List.mem_append_right _ (List.mem_append_right _ (List.mem_append_right _ (List.mem_append_left _ (List.mem_of_getElem? (l := tables_1_3) (i := 11) rfl))))) rfl
theorem q_3_13 : (.instanceMethod yX7_parentOf : Cond) ∈ gT := gT_mem (List.mem_append_right _ (List.mem_append_right _ (List.mem_append_right _ (List.mem_append_left _ (List.mem_of_getElem? (l := tables_1_3) (i := 13) rfl))))) rfl
theorem qp_17 : (.selects RX7 yX7_parentOf yX7_parentOf : Cond) ∈ gT := gT_mem (List.mem_append_left _ (List.mem_of_getElem? (l := k2_sels lw_privs) (i := 17) rfl)) rfl
theorem q_3_6 : (.code yX7_holderOf cX7_holderOf 2 (some .int) : Cond) ∈ gT := gT_mem (List.mem_append_right _ (List.mem_append_right _ (List.mem_append_right _ (List.mem_append_left _ (List.mem_of_getElem? (l := tables_1_3) (i := 6) rfl))))) rfl
theorem q_3_3 : (.methodLink RX7 212 yX7_holderOf : Cond) ∈ gT := gT_mem (List.mem_append_right _ (List.mem_append_right _ (List.mem_append_right _ (List.mem_append_left _ (List.mem_of_getElem? (l := tables_1_3) (i := 3) rfl))))) rfl
theorem q_3_5 : (.instanceMethod yX7_holderOf : Cond) ∈ gT := gT_mem (List.mem_append_right _ (List.mem_append_right _ (List.mem_append_right _ (List.mem_append_left _ (List.mem_of_getElem? (l := tables_1_3) (i := 5) rfl))))) rfl
theorem qp_15 : (.selects RX7 yX7_holderOf yX7_holderOf : Cond) ∈ gT := gT_mem (List.mem_append_left _ (List.mem_of_getElem? (l := k2_sels lw_privs) (i := 15) rfl)) rfl
theorem q_3_10 : (.code yX7_parentHolds cX7_parentHolds 4 (some .boolean) : Cond) ∈ gT := gT_mem (List.mem_append_right _ (List.mem_append_right _ (List.mem_append_right _ (List.mem_append_left _ (List.mem_of_getElem? (l := tables_1_3) (i := 10) rfl))))) rfl
theorem q_3_7 : (.methodLink RX7 215 yX7_parentHolds : Cond) ∈ gT := gT_mem (List.mem_append_right _ (List.mem_append_right _ (List.mem_append_right _ (List.mem_append_left _ (List.mem_of_getElem? (l := tables_1_3) (i := 7) rfl))))) rfl
theorem q_3_9 : (.instanceMethod yX7_parentHolds : Cond) ∈ gT := gT_mem (List.mem_append_right _ (List.mem_append_right _ (List.mem_append_right _ (List.mem_append_left _ (List.mem_of_getElem? (l := tables_1_3) (i := 9) rfl))))) rfl
theorem qp_16 : (.selects RX7 yX7_parentHolds yX7_parentHolds : Cond) ∈ gT := gT_mem (List.mem_append_left _ (List.mem_of_getElem? (l := k2_sels lw_privs) (i := 16) rfl)) rfl
theorem q_3_2 : (.code yX7_treeHolds cX7_treeHolds 3 (some .boolean) : Cond) ∈ gT := gT_mem (List.mem_append_right _ (List.mem_append_right _ (List.mem_append_right _ (List.mem_append_left _ (List.mem_of_getElem? (l := tables_1_3) (i := 2) rfl))))) rfl
theorem q_2_239 : (.methodLink RX7 85 yX7_treeHolds : Cond) ∈ gT := gT_mem (List.mem_append_right _ (List.mem_append_right _ (List.mem_append_left _ (List.mem_of_getElem? (l := tables_1_2) (i := 239) rfl)))) rfl
theorem q_3_1 : (.instanceMethod yX7_treeHolds : Cond) ∈ gT := gT_mem (List.mem_append_right _ (List.mem_append_right _ (List.mem_append_right _ (List.mem_append_left _ (List.mem_of_getElem? (l := tables_1_3) (i := 1) rfl))))) rfl
theorem qp_14 : (.selects RX7 yX7_treeHolds yX7_treeHolds : Cond) ∈ gT := gT_mem (List.mem_append_left _ (List.mem_of_getElem? (l := k2_sels lw_privs) (i := 14) rfl)) rfl
theorem q_1_172 : (.fieldLink RX7 34 "InodeDesk$Checker" "blockPool" "LInodeDesk$Pool;" : Cond) ∈ gT := gT_mem (List.mem_append_right _ (List.mem_append_left _ (List.mem_of_getElem? (l := tables_1_1) (i := 172) rfl))) rfl
theorem q_3_22 : (.code yX3_tailHolds cX3_tailHolds 6 (some .boolean) : Cond) ∈ gT := gT_mem (List.mem_append_right _ (List.mem_append_right _ (List.mem_append_right _ (List.mem_append_left _ (List.mem_of_getElem? (l := tables_1_3) (i := 22) rfl))))) rfl
theorem q_3_19 : (.methodLink RX7 221 yX3_tailHolds : Cond) ∈ gT := gT_mem (List.mem_append_right _ (List.mem_append_right _ (List.mem_append_right _ (List.mem_append_left _ (List.mem_of_getElem? (l := tables_1_3) (i := 19) rfl))))) rfl
theorem q_3_20 : (.instanceMethod yX3_tailHolds : Cond) ∈ gT := gT_mem (List.mem_append_right _ (List.mem_append_right _ (List.mem_append_right _ (List.mem_append_left _ (List.mem_of_getElem? (l := tables_1_3) (i := 20) rfl))))) rfl
theorem q_3_21 : (.selects RX3 yX3_tailHolds yX3_tailHolds : Cond) ∈ gT := gT_mem (List.mem_append_right _ (List.mem_append_right _ (List.mem_append_right _ (List.mem_append_left _ (List.mem_of_getElem? (l := tables_1_3) (i := 21) rfl))))) rfl
theorem q_3_18 : (.code yX7_mapsHold cX7_mapsHold 2 (some .boolean) : Cond) ∈ gT := gT_mem (List.mem_append_right _ (List.mem_append_right _ (List.mem_append_right _ (List.mem_append_left _ (List.mem_of_getElem? (l := tables_1_3) (i := 18) rfl))))) rfl
theorem q_3_15 : (.methodLink RX7 88 yX7_mapsHold : Cond) ∈ gT := gT_mem (List.mem_append_right _ (List.mem_append_right _ (List.mem_append_right _ (List.mem_append_left _ (List.mem_of_getElem? (l := tables_1_3) (i := 15) rfl))))) rfl
theorem q_3_17 : (.instanceMethod yX7_mapsHold : Cond) ∈ gT := gT_mem (List.mem_append_right _ (List.mem_append_right _ (List.mem_append_right _ (List.mem_append_left _ (List.mem_of_getElem? (l := tables_1_3) (i := 17) rfl))))) rfl
theorem qp_18 : (.selects RX7 yX7_mapsHold yX7_mapsHold : Cond) ∈ gT := gT_mem (List.mem_append_left _ (List.mem_of_getElem? (l := k2_sels lw_privs) (i := 18) rfl)) rfl
theorem q_1_177 : (.fieldLink RX7 14 "InodeDesk$Checker" "draft" "LInodeDesk$Disk;" : Cond) ∈ gT := gT_mem (List.mem_append_right _ (List.mem_append_left _ (List.mem_of_getElem? (l := tables_1_1) (i := 177) rfl))) rfl
theorem q_3_41 : (.methodLink RX7 224 yX1_fill : Cond) ∈ gT := gT_mem (List.mem_append_right _ (List.mem_append_right _ (List.mem_append_right _ (List.mem_append_left _ (List.mem_of_getElem? (l := tables_1_3) (i := 41) rfl))))) rfl
theorem q_1_176 : (.fieldLink RX7 49 "InodeDesk$Checker" "heads" "LInodeDesk$Heads;" : Cond) ∈ gT := gT_mem (List.mem_append_right _ (List.mem_append_left _ (List.mem_of_getElem? (l := tables_1_1) (i := 176) rfl))) rfl
theorem q_4_135 : (.methodLink RX7 227 yX6_sketch : Cond) ∈ gT := gT_mem (List.mem_append_right _ (List.mem_append_right _ (List.mem_append_right _ (List.mem_append_right _ (List.mem_append_left _ (List.mem_of_getElem? (l := tables_1_4) (i := 135) rfl)))))) rfl
theorem q_4_178 : (.methodLink RX7 233 yX1_put2 : Cond) ∈ gT := gT_mem (List.mem_append_right _ (List.mem_append_right _ (List.mem_append_right _ (List.mem_append_right _ (List.mem_append_left _ (List.mem_of_getElem? (l := tables_1_4) (i := 178) rfl)))))) rfl
theorem q_4_179 : (.methodLink RX7 237 yX2_partAt : Cond) ∈ gT := gT_mem (List.mem_append_right _ (List.mem_append_right _ (List.mem_append_right _ (List.mem_append_right _ (List.mem_append_left _ (List.mem_of_getElem? (l := tables_1_4) (i := 179) rfl)))))) rfl
theorem q_3_40 : (.code yX7_headsHold cX7_headsHold 4 (some .boolean) : Cond) ∈ gT := gT_mem (List.mem_append_right _ (List.mem_append_right _ (List.mem_append_right _ (List.mem_append_left _ (List.mem_of_getElem? (l := tables_1_3) (i := 40) rfl))))) rfl
theorem q_3_37 : (.methodLink RX7 91 yX7_headsHold : Cond) ∈ gT := gT_mem (List.mem_append_right _ (List.mem_append_right _ (List.mem_append_right _ (List.mem_append_left _ (List.mem_of_getElem? (l := tables_1_3) (i := 37) rfl))))) rfl
theorem q_3_39 : (.instanceMethod yX7_headsHold : Cond) ∈ gT := gT_mem (List.mem_append_right _ (List.mem_append_right _ (List.mem_append_right _ (List.mem_append_left _ (List.mem_of_getElem? (l := tables_1_3) (i := 39) rfl))))) rfl
theorem qp_20 : (.selects RX7 yX7_headsHold yX7_headsHold : Cond) ∈ gT := gT_mem (List.mem_append_left _ (List.mem_of_getElem? (l := k2_sels lw_privs) (i := 20) rfl)) rfl
theorem q_2_67 : (.code yX7_allHolds cX7_allHolds 2 (some .boolean) : Cond) ∈ gT := gT_mem (List.mem_append_right _ (List.mem_append_right _ (List.mem_append_left _ (List.mem_of_getElem? (l := tables_1_2) (i := 67) rfl)))) rfl
theorem q_2_64 : (.methodLink RX0 156 yX7_allHolds : Cond) ∈ gT := gT_mem (List.mem_append_right _ (List.mem_append_right _ (List.mem_append_left _ (List.mem_of_getElem? (l := tables_1_2) (i := 64) rfl)))) rfl
theorem q_2_65 : (.instanceMethod yX7_allHolds : Cond) ∈ gT := gT_mem (List.mem_append_right _ (List.mem_append_right _ (List.mem_append_left _ (List.mem_of_getElem? (l := tables_1_2) (i := 65) rfl)))) rfl
theorem q_2_66 : (.selects RX7 yX7_allHolds yX7_allHolds : Cond) ∈ gT := gT_mem (List.mem_append_right _ (List.mem_append_right _ (List.mem_append_left _ (List.mem_of_getElem? (l := tables_1_2) (i := 66) rfl)))) rfl
theorem q_4_189 : (.methodLink RX0 159 yX2_groups : Cond) ∈ gT := gT_mem (List.mem_append_right _ (List.mem_append_right _ (List.mem_append_right _ (List.mem_append_right _ (List.mem_append_left _ (List.mem_of_getElem? (l := tables_1_4) (i := 189) rfl)))))) rfl
theorem q_4_190 : (.methodLink RX0 162 yX2_groupInodes : Cond) ∈ gT := gT_mem (List.mem_append_right _ (List.mem_append_right _ (List.mem_append_right _ (List.mem_append_right _ (List.mem_append_left _ (List.mem_of_getElem? (l := tables_1_4) (i := 190) rfl)))))) rfl
theorem q_5_70 : (.classLink RX0 283 "java/lang/IllegalStateException" : Cond) ∈ gT := gT_mem (List.mem_append_right _ (List.mem_append_right _ (List.mem_append_right _ (List.mem_append_right _ (List.mem_append_right _ (List.mem_append_left _ (List.mem_of_getElem? (l := tables_1_5) (i := 70) rfl))))))) rfl
theorem q_1_29 : (.initialized "java/lang/IllegalStateException" : Cond) ∈ gT := gT_mem (List.mem_append_right _ (List.mem_append_left _ (List.mem_of_getElem? (l := tables_1_1) (i := 29) rfl))) rfl
theorem q_5_71 : (.instantiable "java/lang/IllegalStateException" 6 : Cond) ∈ gT := gT_mem (List.mem_append_right _ (List.mem_append_right _ (List.mem_append_right _ (List.mem_append_right _ (List.mem_append_right _ (List.mem_append_left _ (List.mem_of_getElem? (l := tables_1_5) (i := 71) rfl))))))) rfl
theorem q_5_69 : (.code yX0_needVolume cX0_needVolume 1 none : Cond) ∈ gT := gT_mem (List.mem_append_right _ (List.mem_append_right _ (List.mem_append_right _ (List.mem_append_right _ (List.mem_append_right _ (List.mem_append_left _ (List.mem_of_getElem? (l := tables_1_5) (i := 69) rfl))))))) rfl
theorem q_5_66 : (.methodLink RX0 165 yX0_needVolume : Cond) ∈ gT := gT_mem (List.mem_append_right _ (List.mem_append_right _ (List.mem_append_right _ (List.mem_append_right _ (List.mem_append_right _ (List.mem_append_left _ (List.mem_of_getElem? (l := tables_1_5) (i := 66) rfl))))))) rfl
theorem q_5_68 : (.instanceMethod yX0_needVolume : Cond) ∈ gT := gT_mem (List.mem_append_right _ (List.mem_append_right _ (List.mem_append_right _ (List.mem_append_right _ (List.mem_append_right _ (List.mem_append_left _ (List.mem_of_getElem? (l := tables_1_5) (i := 68) rfl))))))) rfl
theorem qp_28 : (.selects RX0 yX0_needVolume yX0_needVolume : Cond) ∈ gT := gT_mem (List.mem_append_left _ (List.mem_of_getElem? (l := k2_sels lw_privs) (i := 28) rfl)) rfl
theorem q_1_1 : (.initialized RX0 : Cond) ∈ gT := gT_mem (List.mem_append_right _ (List.mem_append_left _ (List.mem_of_getElem? (l := tables_1_1) (i := 1) rfl))) rfl
theorem q_5_86 : (.methodLink RX0 168 yX5_read : Cond) ∈ gT := gT_mem (List.mem_append_right _ (List.mem_append_right _ (List.mem_append_right _ (List.mem_append_right _ (List.mem_append_right _ (List.mem_append_left _ (List.mem_of_getElem? (l := tables_1_5) (i := 86) rfl))))))) rfl
theorem q_5_90 : (.code yX5_itemCount cX5_itemCount 3 (some .int) : Cond) ∈ gT := gT_mem (List.mem_append_right _ (List.mem_append_right _ (List.mem_append_right _ (List.mem_append_right _ (List.mem_append_right _ (List.mem_append_left _ (List.mem_of_getElem? (l := tables_1_5) (i := 90) rfl))))))) rfl
theorem q_5_87 : (.methodLink RX0 171 yX5_itemCount : Cond) ∈ gT := gT_mem (List.mem_append_right _ (List.mem_append_right _ (List.mem_append_right _ (List.mem_append_right _ (List.mem_append_right _ (List.mem_append_left _ (List.mem_of_getElem? (l := tables_1_5) (i := 87) rfl))))))) rfl
theorem q_5_88 : (.instanceMethod yX5_itemCount : Cond) ∈ gT := gT_mem (List.mem_append_right _ (List.mem_append_right _ (List.mem_append_right _ (List.mem_append_right _ (List.mem_append_right _ (List.mem_append_left _ (List.mem_of_getElem? (l := tables_1_5) (i := 88) rfl))))))) rfl
theorem q_5_89 : (.selects RX5 yX5_itemCount yX5_itemCount : Cond) ∈ gT := gT_mem (List.mem_append_right _ (List.mem_append_right _ (List.mem_append_right _ (List.mem_append_right _ (List.mem_append_right _ (List.mem_append_left _ (List.mem_of_getElem? (l := tables_1_5) (i := 89) rfl))))))) rfl
theorem q_5_106 : (.code yX5_placeOf cX5_placeOf 4 (some .int) : Cond) ∈ gT := gT_mem (List.mem_append_right _ (List.mem_append_right _ (List.mem_append_right _ (List.mem_append_right _ (List.mem_append_right _ (List.mem_append_left _ (List.mem_of_getElem? (l := tables_1_5) (i := 106) rfl))))))) rfl
theorem q_5_103 : (.methodLink RX0 288 yX5_placeOf : Cond) ∈ gT := gT_mem (List.mem_append_right _ (List.mem_append_right _ (List.mem_append_right _ (List.mem_append_right _ (List.mem_append_right _ (List.mem_append_left _ (List.mem_of_getElem? (l := tables_1_5) (i := 103) rfl))))))) rfl
theorem q_5_104 : (.instanceMethod yX5_placeOf : Cond) ∈ gT := gT_mem (List.mem_append_right _ (List.mem_append_right _ (List.mem_append_right _ (List.mem_append_right _ (List.mem_append_right _ (List.mem_append_left _ (List.mem_of_getElem? (l := tables_1_5) (i := 104) rfl))))))) rfl
theorem q_5_105 : (.selects RX5 yX5_placeOf yX5_placeOf : Cond) ∈ gT := gT_mem (List.mem_append_right _ (List.mem_append_right _ (List.mem_append_right _ (List.mem_append_right _ (List.mem_append_right _ (List.mem_append_left _ (List.mem_of_getElem? (l := tables_1_5) (i := 105) rfl))))))) rfl
theorem q_5_107 : (.classLink RX0 291 "java/lang/IndexOutOfBoundsException" : Cond) ∈ gT := gT_mem (List.mem_append_right _ (List.mem_append_right _ (List.mem_append_right _ (List.mem_append_right _ (List.mem_append_right _ (List.mem_append_left _ (List.mem_of_getElem? (l := tables_1_5) (i := 107) rfl))))))) rfl
theorem q_1_27 : (.initialized "java/lang/IndexOutOfBoundsException" : Cond) ∈ gT := gT_mem (List.mem_append_right _ (List.mem_append_left _ (List.mem_of_getElem? (l := tables_1_1) (i := 27) rfl))) rfl
theorem q_5_108 : (.instantiable "java/lang/IndexOutOfBoundsException" 6 : Cond) ∈ gT := gT_mem (List.mem_append_right _ (List.mem_append_right _ (List.mem_append_right _ (List.mem_append_right _ (List.mem_append_right _ (List.mem_append_left _ (List.mem_of_getElem? (l := tables_1_5) (i := 108) rfl))))))) rfl
theorem q_5_102 : (.code yX0_itemHere cX0_itemHere 3 (some .int) : Cond) ∈ gT := gT_mem (List.mem_append_right _ (List.mem_append_right _ (List.mem_append_right _ (List.mem_append_right _ (List.mem_append_right _ (List.mem_append_left _ (List.mem_of_getElem? (l := tables_1_5) (i := 102) rfl))))))) rfl
theorem q_5_99 : (.methodLink RX0 174 yX0_itemHere : Cond) ∈ gT := gT_mem (List.mem_append_right _ (List.mem_append_right _ (List.mem_append_right _ (List.mem_append_right _ (List.mem_append_right _ (List.mem_append_left _ (List.mem_of_getElem? (l := tables_1_5) (i := 99) rfl))))))) rfl
theorem q_5_101 : (.instanceMethod yX0_itemHere : Cond) ∈ gT := gT_mem (List.mem_append_right _ (List.mem_append_right _ (List.mem_append_right _ (List.mem_append_right _ (List.mem_append_right _ (List.mem_append_left _ (List.mem_of_getElem? (l := tables_1_5) (i := 101) rfl))))))) rfl
theorem qp_29 : (.selects RX0 yX0_itemHere yX0_itemHere : Cond) ∈ gT := gT_mem (List.mem_append_left _ (List.mem_of_getElem? (l := k2_sels lw_privs) (i := 29) rfl)) rfl
theorem q_5_120 : (.methodLink RX0 177 yX5_letterOf : Cond) ∈ gT := gT_mem (List.mem_append_right _ (List.mem_append_right _ (List.mem_append_right _ (List.mem_append_right _ (List.mem_append_right _ (List.mem_append_left _ (List.mem_of_getElem? (l := tables_1_5) (i := 120) rfl))))))) rfl
theorem q_5_128 : (.methodLink RX0 180 yX5_inodeOf : Cond) ∈ gT := gT_mem (List.mem_append_right _ (List.mem_append_right _ (List.mem_append_right _ (List.mem_append_right _ (List.mem_append_right _ (List.mem_append_left _ (List.mem_of_getElem? (l := tables_1_5) (i := 128) rfl))))))) rfl
theorem q_5_129 : (.methodLink RX0 183 yX4_isDirectory : Cond) ∈ gT := gT_mem (List.mem_append_right _ (List.mem_append_right _ (List.mem_append_right _ (List.mem_append_right _ (List.mem_append_right _ (List.mem_append_left _ (List.mem_of_getElem? (l := tables_1_5) (i := 129) rfl))))))) rfl
theorem q_5_130 : (.methodLink RX0 186 yX4_size : Cond) ∈ gT := gT_mem (List.mem_append_right _ (List.mem_append_right _ (List.mem_append_right _ (List.mem_append_right _ (List.mem_append_right _ (List.mem_append_left _ (List.mem_of_getElem? (l := tables_1_5) (i := 130) rfl))))))) rfl
theorem q_5_131 : (.methodLink RX0 189 yX4_links : Cond) ∈ gT := gT_mem (List.mem_append_right _ (List.mem_append_right _ (List.mem_append_right _ (List.mem_append_right _ (List.mem_append_right _ (List.mem_append_left _ (List.mem_of_getElem? (l := tables_1_5) (i := 131) rfl))))))) rfl
theorem q_5_136 : (.constantLong RX4 44 (4294967295 : Int64) : Cond) ∈ gT := gT_mem (List.mem_append_right _ (List.mem_append_right _ (List.mem_append_right _ (List.mem_append_right _ (List.mem_append_right _ (List.mem_append_left _ (List.mem_of_getElem? (l := tables_1_5) (i := 136) rfl))))))) rfl
theorem q_5_135 : (.code yX4_time cX4_time 3 (some .long) : Cond) ∈ gT := gT_mem (List.mem_append_right _ (List.mem_append_right _ (List.mem_append_right _ (List.mem_append_right _ (List.mem_append_right _ (List.mem_append_left _ (List.mem_of_getElem? (l := tables_1_5) (i := 135) rfl))))))) rfl
theorem q_5_132 : (.methodLink RX0 192 yX4_time : Cond) ∈ gT := gT_mem (List.mem_append_right _ (List.mem_append_right _ (List.mem_append_right _ (List.mem_append_right _ (List.mem_append_right _ (List.mem_append_left _ (List.mem_of_getElem? (l := tables_1_5) (i := 132) rfl))))))) rfl
theorem q_5_133 : (.instanceMethod yX4_time : Cond) ∈ gT := gT_mem (List.mem_append_right _ (List.mem_append_right _ (List.mem_append_right _ (List.mem_append_right _ (List.mem_append_right _ (List.mem_append_left _ (List.mem_of_getElem? (l := tables_1_5) (i := 133) rfl))))))) rfl
theorem q_5_134 : (.selects RX4 yX4_time yX4_time : Cond) ∈ gT := gT_mem (List.mem_append_right _ (List.mem_append_right _ (List.mem_append_right _ (List.mem_append_right _ (List.mem_append_right _ (List.mem_append_left _ (List.mem_of_getElem? (l := tables_1_5) (i := 134) rfl))))))) rfl
theorem q_5_145 : (.methodLink RX0 198 yX4_blockOf : Cond) ∈ gT := gT_mem (List.mem_append_right _ (List.mem_append_right _ (List.mem_append_right _ (List.mem_append_right _ (List.mem_append_right _ (List.mem_append_left _ (List.mem_of_getElem? (l := tables_1_5) (i := 145) rfl))))))) rfl
theorem q_5_161 : (.methodLink RX0 203 yX5_parent : Cond) ∈ gT := gT_mem (List.mem_append_right _ (List.mem_append_right _ (List.mem_append_right _ (List.mem_append_right _ (List.mem_append_right _ (List.mem_append_left _ (List.mem_of_getElem? (l := tables_1_5) (i := 161) rfl))))))) rfl
theorem q_5_173 : (.code yX8_drain cX8_drain 2 (some .int) : Cond) ∈ gT := gT_mem (List.mem_append_right _ (List.mem_append_right _ (List.mem_append_right _ (List.mem_append_right _ (List.mem_append_right _ (List.mem_append_left _ (List.mem_of_getElem? (l := tables_1_5) (i := 173) rfl))))))) rfl
theorem q_5_170 : (.methodLink RX0 206 yX8_drain : Cond) ∈ gT := gT_mem (List.mem_append_right _ (List.mem_append_right _ (List.mem_append_right _ (List.mem_append_right _ (List.mem_append_right _ (List.mem_append_left _ (List.mem_of_getElem? (l := tables_1_5) (i := 170) rfl))))))) rfl
theorem q_5_171 : (.instanceMethod yX8_drain : Cond) ∈ gT := gT_mem (List.mem_append_right _ (List.mem_append_right _ (List.mem_append_right _ (List.mem_append_right _ (List.mem_append_right _ (List.mem_append_left _ (List.mem_of_getElem? (l := tables_1_5) (i := 171) rfl))))))) rfl
theorem q_5_172 : (.selects RX8 yX8_drain yX8_drain : Cond) ∈ gT := gT_mem (List.mem_append_right _ (List.mem_append_right _ (List.mem_append_right _ (List.mem_append_right _ (List.mem_append_right _ (List.mem_append_left _ (List.mem_of_getElem? (l := tables_1_5) (i := 172) rfl))))))) rfl
theorem q_5_181 : (.code yX8_valueAt cX8_valueAt 2 (some .int) : Cond) ∈ gT := gT_mem (List.mem_append_right _ (List.mem_append_right _ (List.mem_append_right _ (List.mem_append_right _ (List.mem_append_right _ (List.mem_append_left _ (List.mem_of_getElem? (l := tables_1_5) (i := 181) rfl))))))) rfl
theorem q_5_178 : (.methodLink RX8 34 yX8_valueAt : Cond) ∈ gT := gT_mem (List.mem_append_right _ (List.mem_append_right _ (List.mem_append_right _ (List.mem_append_right _ (List.mem_append_right _ (List.mem_append_left _ (List.mem_of_getElem? (l := tables_1_5) (i := 178) rfl))))))) rfl
theorem q_5_179 : (.instanceMethod yX8_valueAt : Cond) ∈ gT := gT_mem (List.mem_append_right _ (List.mem_append_right _ (List.mem_append_right _ (List.mem_append_right _ (List.mem_append_right _ (List.mem_append_left _ (List.mem_of_getElem? (l := tables_1_5) (i := 179) rfl))))))) rfl
theorem q_5_180 : (.selects RX8 yX8_valueAt yX8_valueAt : Cond) ∈ gT := gT_mem (List.mem_append_right _ (List.mem_append_right _ (List.mem_append_right _ (List.mem_append_right _ (List.mem_append_right _ (List.mem_append_left _ (List.mem_of_getElem? (l := tables_1_5) (i := 180) rfl))))))) rfl
theorem q_5_177 : (.code yX8_isName cX8_isName 3 (some .boolean) : Cond) ∈ gT := gT_mem (List.mem_append_right _ (List.mem_append_right _ (List.mem_append_right _ (List.mem_append_right _ (List.mem_append_right _ (List.mem_append_left _ (List.mem_of_getElem? (l := tables_1_5) (i := 177) rfl))))))) rfl
theorem q_5_174 : (.methodLink RX0 209 yX8_isName : Cond) ∈ gT := gT_mem (List.mem_append_right _ (List.mem_append_right _ (List.mem_append_right _ (List.mem_append_right _ (List.mem_append_right _ (List.mem_append_left _ (List.mem_of_getElem? (l := tables_1_5) (i := 174) rfl))))))) rfl
theorem q_5_175 : (.instanceMethod yX8_isName : Cond) ∈ gT := gT_mem (List.mem_append_right _ (List.mem_append_right _ (List.mem_append_right _ (List.mem_append_right _ (List.mem_append_right _ (List.mem_append_left _ (List.mem_of_getElem? (l := tables_1_5) (i := 175) rfl))))))) rfl
theorem q_5_176 : (.selects RX8 yX8_isName yX8_isName : Cond) ∈ gT := gT_mem (List.mem_append_right _ (List.mem_append_right _ (List.mem_append_right _ (List.mem_append_right _ (List.mem_append_right _ (List.mem_append_left _ (List.mem_of_getElem? (l := tables_1_5) (i := 176) rfl))))))) rfl
theorem q_5_190 : (.methodLink RX5 72 yX5_nameLengthOf : Cond) ∈ gT := gT_mem (List.mem_append_right _ (List.mem_append_right _ (List.mem_append_right _ (List.mem_append_right _ (List.mem_append_right _ (List.mem_append_left _ (List.mem_of_getElem? (l := tables_1_5) (i := 190) rfl))))))) rfl
theorem q_5_191 : (.methodLink RX5 75 yX5_letterOf : Cond) ∈ gT := gT_mem (List.mem_append_right _ (List.mem_append_right _ (List.mem_append_right _ (List.mem_append_right _ (List.mem_append_right _ (List.mem_append_left _ (List.mem_of_getElem? (l := tables_1_5) (i := 191) rfl))))))) rfl
theorem q_5_192 : (.methodLink RX5 78 ⟨"InodeDesk$Source", "valueAt", "(I)I"⟩ : Cond) ∈ gT := gT_mem (List.mem_append_right _ (List.mem_append_right _ (List.mem_append_right _ (List.mem_append_right _ (List.mem_append_right _ (List.mem_append_left _ (List.mem_of_getElem? (l := tables_1_5) (i := 192) rfl))))))) rfl
theorem q_5_194 : (.sameMethod "InodeDesk$Source" "InodeDesk$Source" "valueAt" "(I)I" : Cond) ∈ gT := gT_mem (List.mem_append_right _ (List.mem_append_right _ (List.mem_append_right _ (List.mem_append_right _ (List.mem_append_right _ (List.mem_append_left _ (List.mem_of_getElem? (l := tables_1_5) (i := 194) rfl))))))) rfl
theorem q_5_198 : (.selects RX8 ⟨"InodeDesk$Source", "valueAt", "(I)I"⟩ yX8_valueAt : Cond) ∈ gT := gT_mem (List.mem_append_right _ (List.mem_append_right _ (List.mem_append_right _ (List.mem_append_right _ (List.mem_append_right _ (List.mem_append_left _ (List.mem_of_getElem? (l := tables_1_5) (i := 198) rfl))))))) rfl
theorem q_5_189 : (.code yX5_isNamed cX5_isNamed 5 (some .boolean) : Cond) ∈ gT := gT_mem (List.mem_append_right _ (List.mem_append_right _ (List.mem_append_right _ (List.mem_append_right _ (List.mem_append_right _ (List.mem_append_left _ (List.mem_of_getElem? (l := tables_1_5) (i := 189) rfl))))))) rfl
theorem q_5_186 : (.methodLink RX5 68 yX5_isNamed : Cond) ∈ gT := gT_mem (List.mem_append_right _ (List.mem_append_right _ (List.mem_append_right _ (List.mem_append_right _ (List.mem_append_right _ (List.mem_append_left _ (List.mem_of_getElem? (l := tables_1_5) (i := 186) rfl))))))) rfl
theorem q_5_188 : (.instanceMethod yX5_isNamed : Cond) ∈ gT := gT_mem (List.mem_append_right _ (List.mem_append_right _ (List.mem_append_right _ (List.mem_append_right _ (List.mem_append_right _ (List.mem_append_left _ (List.mem_of_getElem? (l := tables_1_5) (i := 188) rfl))))))) rfl
theorem qp_30 : (.selects RX5 yX5_isNamed yX5_isNamed : Cond) ∈ gT := gT_mem (List.mem_append_left _ (List.mem_of_getElem? (l := k2_sels lw_privs) (i := 30) rfl)) rfl
theorem q_5_185 : (.code yX5_has cX5_has 4 (some .boolean) : Cond) ∈ gT := gT_mem (List.mem_append_right _ (List.mem_append_right _ (List.mem_append_right _ (List.mem_append_right _ (List.mem_append_right _ (List.mem_append_left _ (List.mem_of_getElem? (l := tables_1_5) (i := 185) rfl))))))) rfl
theorem q_5_182 : (.methodLink RX0 212 yX5_has : Cond) ∈ gT := gT_mem (List.mem_append_right _ (List.mem_append_right _ (List.mem_append_right _ (List.mem_append_right _ (List.mem_append_right _ (List.mem_append_left _ (List.mem_of_getElem? (l := tables_1_5) (i := 182) rfl))))))) rfl
theorem q_5_183 : (.instanceMethod yX5_has : Cond) ∈ gT := gT_mem (List.mem_append_right _ (List.mem_append_right _ (List.mem_append_right _ (List.mem_append_right _ (List.mem_append_right _ (List.mem_append_left _ (List.mem_of_getElem? (l := tables_1_5) (i := 183) rfl))))))) rfl
theorem q_5_184 : (.selects RX5 yX5_has yX5_has : Cond) ∈ gT := gT_mem (List.mem_append_right _ (List.mem_append_right _ (List.mem_append_right _ (List.mem_append_right _ (List.mem_append_right _ (List.mem_append_left _ (List.mem_of_getElem? (l := tables_1_5) (i := 184) rfl))))))) rfl
theorem q_5_204 : (.methodLink RX5 83 yX5_lengthOf : Cond) ∈ gT := gT_mem (List.mem_append_right _ (List.mem_append_right _ (List.mem_append_right _ (List.mem_append_right _ (List.mem_append_right _ (List.mem_append_left _ (List.mem_of_getElem? (l := tables_1_5) (i := 204) rfl))))))) rfl
theorem q_5_205 : (.methodLink RX5 86 yX5_usedBy : Cond) ∈ gT := gT_mem (List.mem_append_right _ (List.mem_append_right _ (List.mem_append_right _ (List.mem_append_right _ (List.mem_append_right _ (List.mem_append_left _ (List.mem_of_getElem? (l := tables_1_5) (i := 205) rfl))))))) rfl
theorem q_5_203 : (.code yX5_roomFor cX5_roomFor 4 (some .int) : Cond) ∈ gT := gT_mem (List.mem_append_right _ (List.mem_append_right _ (List.mem_append_right _ (List.mem_append_right _ (List.mem_append_right _ (List.mem_append_left _ (List.mem_of_getElem? (l := tables_1_5) (i := 203) rfl))))))) rfl
theorem q_5_200 : (.methodLink RX0 218 yX5_roomFor : Cond) ∈ gT := gT_mem (List.mem_append_right _ (List.mem_append_right _ (List.mem_append_right _ (List.mem_append_right _ (List.mem_append_right _ (List.mem_append_left _ (List.mem_of_getElem? (l := tables_1_5) (i := 200) rfl))))))) rfl
theorem q_5_201 : (.instanceMethod yX5_roomFor : Cond) ∈ gT := gT_mem (List.mem_append_right _ (List.mem_append_right _ (List.mem_append_right _ (List.mem_append_right _ (List.mem_append_right _ (List.mem_append_left _ (List.mem_of_getElem? (l := tables_1_5) (i := 201) rfl))))))) rfl
theorem q_5_202 : (.selects RX5 yX5_roomFor yX5_roomFor : Cond) ∈ gT := gT_mem (List.mem_append_right _ (List.mem_append_right _ (List.mem_append_right _ (List.mem_append_right _ (List.mem_append_right _ (List.mem_append_left _ (List.mem_of_getElem? (l := tables_1_5) (i := 202) rfl))))))) rfl
theorem q_5_211 : (.classLink RX0 224 "java/lang/UnsupportedOperationException" : Cond) ∈ gT := gT_mem (List.mem_append_right _ (List.mem_append_right _ (List.mem_append_right _ (List.mem_append_right _ (List.mem_append_right _ (List.mem_append_left _ (List.mem_of_getElem? (l := tables_1_5) (i := 211) rfl))))))) rfl
theorem q_1_30 : (.initialized "java/lang/UnsupportedOperationException" : Cond) ∈ gT := gT_mem (List.mem_append_right _ (List.mem_append_left _ (List.mem_of_getElem? (l := tables_1_1) (i := 30) rfl))) rfl
theorem q_5_212 : (.instantiable "java/lang/UnsupportedOperationException" 6 : Cond) ∈ gT := gT_mem (List.mem_append_right _ (List.mem_append_right _ (List.mem_append_right _ (List.mem_append_right _ (List.mem_append_right _ (List.mem_append_left _ (List.mem_of_getElem? (l := tables_1_5) (i := 212) rfl))))))) rfl
theorem q_5_234 : (.code yX5_split cX5_split 5 (some .int) : Cond) ∈ gT := gT_mem (List.mem_append_right _ (List.mem_append_right _ (List.mem_append_right _ (List.mem_append_right _ (List.mem_append_right _ (List.mem_append_left _ (List.mem_of_getElem? (l := tables_1_5) (i := 234) rfl))))))) rfl
theorem q_5_231 : (.methodLink RX0 232 yX5_split : Cond) ∈ gT := gT_mem (List.mem_append_right _ (List.mem_append_right _ (List.mem_append_right _ (List.mem_append_right _ (List.mem_append_right _ (List.mem_append_left _ (List.mem_of_getElem? (l := tables_1_5) (i := 231) rfl))))))) rfl
theorem q_5_232 : (.instanceMethod yX5_split : Cond) ∈ gT := gT_mem (List.mem_append_right _ (List.mem_append_right _ (List.mem_append_right _ (List.mem_append_right _ (List.mem_append_right _ (List.mem_append_left _ (List.mem_of_getElem? (l := tables_1_5) (i := 232) rfl))))))) rfl
theorem q_5_233 : (.selects RX5 yX5_split yX5_split : Cond) ∈ gT := gT_mem (List.mem_append_right _ (List.mem_append_right _ (List.mem_append_right _ (List.mem_append_right _ (List.mem_append_right _ (List.mem_append_left _ (List.mem_of_getElem? (l := tables_1_5) (i := 233) rfl))))))) rfl
theorem q_5_239 : (.methodLink RX5 99 yX1_fill : Cond) ∈ gT := gT_mem (List.mem_append_right _ (List.mem_append_right _ (List.mem_append_right _ (List.mem_append_right _ (List.mem_append_right _ (List.mem_append_left _ (List.mem_of_getElem? (l := tables_1_5) (i := 239) rfl))))))) rfl
theorem q_5_238 : (.code yX5_fillEntry cX5_fillEntry 8 none : Cond) ∈ gT := gT_mem (List.mem_append_right _ (List.mem_append_right _ (List.mem_append_right _ (List.mem_append_right _ (List.mem_append_right _ (List.mem_append_left _ (List.mem_of_getElem? (l := tables_1_5) (i := 238) rfl))))))) rfl
theorem q_5_235 : (.methodLink RX0 235 yX5_fillEntry : Cond) ∈ gT := gT_mem (List.mem_append_right _ (List.mem_append_right _ (List.mem_append_right _ (List.mem_append_right _ (List.mem_append_right _ (List.mem_append_left _ (List.mem_of_getElem? (l := tables_1_5) (i := 235) rfl))))))) rfl
theorem q_5_236 : (.instanceMethod yX5_fillEntry : Cond) ∈ gT := gT_mem (List.mem_append_right _ (List.mem_append_right _ (List.mem_append_right _ (List.mem_append_right _ (List.mem_append_right _ (List.mem_append_left _ (List.mem_of_getElem? (l := tables_1_5) (i := 236) rfl))))))) rfl
theorem q_5_237 : (.selects RX5 yX5_fillEntry yX5_fillEntry : Cond) ∈ gT := gT_mem (List.mem_append_right _ (List.mem_append_right _ (List.mem_append_right _ (List.mem_append_right _ (List.mem_append_right _ (List.mem_append_left _ (List.mem_of_getElem? (l := tables_1_5) (i := 237) rfl))))))) rfl
theorem q_6_7 : (.code yX5_numberOf cX5_numberOf 4 (some .int) : Cond) ∈ gT := gT_mem (List.mem_append_right _ (List.mem_append_right _ (List.mem_append_right _ (List.mem_append_right _ (List.mem_append_right _ (List.mem_append_right _ (List.mem_append_left _ (List.mem_of_getElem? (l := tables_1_6) (i := 7) rfl)))))))) rfl
theorem q_6_4 : (.methodLink RX0 242 yX5_numberOf : Cond) ∈ gT := gT_mem (List.mem_append_right _ (List.mem_append_right _ (List.mem_append_right _ (List.mem_append_right _ (List.mem_append_right _ (List.mem_append_right _ (List.mem_append_left _ (List.mem_of_getElem? (l := tables_1_6) (i := 4) rfl)))))))) rfl
theorem q_6_5 : (.instanceMethod yX5_numberOf : Cond) ∈ gT := gT_mem (List.mem_append_right _ (List.mem_append_right _ (List.mem_append_right _ (List.mem_append_right _ (List.mem_append_right _ (List.mem_append_right _ (List.mem_append_left _ (List.mem_of_getElem? (l := tables_1_6) (i := 5) rfl)))))))) rfl
theorem q_6_6 : (.selects RX5 yX5_numberOf yX5_numberOf : Cond) ∈ gT := gT_mem (List.mem_append_right _ (List.mem_append_right _ (List.mem_append_right _ (List.mem_append_right _ (List.mem_append_right _ (List.mem_append_right _ (List.mem_append_left _ (List.mem_of_getElem? (l := tables_1_6) (i := 6) rfl)))))))) rfl
theorem q_6_3 : (.code yX4_addLinks cX4_addLinks 4 none : Cond) ∈ gT := gT_mem (List.mem_append_right _ (List.mem_append_right _ (List.mem_append_right _ (List.mem_append_right _ (List.mem_append_right _ (List.mem_append_right _ (List.mem_append_left _ (List.mem_of_getElem? (l := tables_1_6) (i := 3) rfl)))))))) rfl
theorem q_6_0 : (.methodLink RX0 239 yX4_addLinks : Cond) ∈ gT := gT_mem (List.mem_append_right _ (List.mem_append_right _ (List.mem_append_right _ (List.mem_append_right _ (List.mem_append_right _ (List.mem_append_right _ (List.mem_append_left _ (List.mem_of_getElem? (l := tables_1_6) (i := 0) rfl)))))))) rfl
theorem q_6_1 : (.instanceMethod yX4_addLinks : Cond) ∈ gT := gT_mem (List.mem_append_right _ (List.mem_append_right _ (List.mem_append_right _ (List.mem_append_right _ (List.mem_append_right _ (List.mem_append_right _ (List.mem_append_left _ (List.mem_of_getElem? (l := tables_1_6) (i := 1) rfl)))))))) rfl
theorem q_6_2 : (.selects RX4 yX4_addLinks yX4_addLinks : Cond) ∈ gT := gT_mem (List.mem_append_right _ (List.mem_append_right _ (List.mem_append_right _ (List.mem_append_right _ (List.mem_append_right _ (List.mem_append_right _ (List.mem_append_left _ (List.mem_of_getElem? (l := tables_1_6) (i := 2) rfl)))))))) rfl
theorem q_5_230 : (.code yX5_open cX5_open 2 (some .int) : Cond) ∈ gT := gT_mem (List.mem_append_right _ (List.mem_append_right _ (List.mem_append_right _ (List.mem_append_right _ (List.mem_append_right _ (List.mem_append_left _ (List.mem_of_getElem? (l := tables_1_5) (i := 230) rfl))))))) rfl
theorem q_5_227 : (.methodLink RX0 229 yX5_open : Cond) ∈ gT := gT_mem (List.mem_append_right _ (List.mem_append_right _ (List.mem_append_right _ (List.mem_append_right _ (List.mem_append_right _ (List.mem_append_left _ (List.mem_of_getElem? (l := tables_1_5) (i := 227) rfl))))))) rfl
theorem q_5_228 : (.instanceMethod yX5_open : Cond) ∈ gT := gT_mem (List.mem_append_right _ (List.mem_append_right _ (List.mem_append_right _ (List.mem_append_right _ (List.mem_append_right _ (List.mem_append_left _ (List.mem_of_getElem? (l := tables_1_5) (i := 228) rfl))))))) rfl
theorem q_5_229 : (.selects RX5 yX5_open yX5_open : Cond) ∈ gT := gT_mem (List.mem_append_right _ (List.mem_append_right _ (List.mem_append_right _ (List.mem_append_right _ (List.mem_append_right _ (List.mem_append_left _ (List.mem_of_getElem? (l := tables_1_5) (i := 229) rfl))))))) rfl
theorem q_5_210 : (.methodLink RX4 71 yX4_withIndirect : Cond) ∈ gT := gT_mem (List.mem_append_right _ (List.mem_append_right _ (List.mem_append_right _ (List.mem_append_right _ (List.mem_append_right _ (List.mem_append_left _ (List.mem_of_getElem? (l := tables_1_5) (i := 210) rfl))))))) rfl
theorem q_5_209 : (.code yX4_costOf cX4_costOf 4 (some .int) : Cond) ∈ gT := gT_mem (List.mem_append_right _ (List.mem_append_right _ (List.mem_append_right _ (List.mem_append_right _ (List.mem_append_right _ (List.mem_append_left _ (List.mem_of_getElem? (l := tables_1_5) (i := 209) rfl))))))) rfl
theorem q_5_206 : (.methodLink RX0 221 yX4_costOf : Cond) ∈ gT := gT_mem (List.mem_append_right _ (List.mem_append_right _ (List.mem_append_right _ (List.mem_append_right _ (List.mem_append_right _ (List.mem_append_left _ (List.mem_of_getElem? (l := tables_1_5) (i := 206) rfl))))))) rfl
theorem q_5_207 : (.instanceMethod yX4_costOf : Cond) ∈ gT := gT_mem (List.mem_append_right _ (List.mem_append_right _ (List.mem_append_right _ (List.mem_append_right _ (List.mem_append_right _ (List.mem_append_left _ (List.mem_of_getElem? (l := tables_1_5) (i := 207) rfl))))))) rfl
theorem q_5_208 : (.selects RX4 yX4_costOf yX4_costOf : Cond) ∈ gT := gT_mem (List.mem_append_right _ (List.mem_append_right _ (List.mem_append_right _ (List.mem_append_right _ (List.mem_append_right _ (List.mem_append_left _ (List.mem_of_getElem? (l := tables_1_5) (i := 208) rfl))))))) rfl
theorem q_6_18 : (.code yX0_fileAt cX0_fileAt 3 (some .int) : Cond) ∈ gT := gT_mem (List.mem_append_right _ (List.mem_append_right _ (List.mem_append_right _ (List.mem_append_right _ (List.mem_append_right _ (List.mem_append_right _ (List.mem_append_left _ (List.mem_of_getElem? (l := tables_1_6) (i := 18) rfl)))))))) rfl
theorem q_6_15 : (.methodLink RX0 245 yX0_fileAt : Cond) ∈ gT := gT_mem (List.mem_append_right _ (List.mem_append_right _ (List.mem_append_right _ (List.mem_append_right _ (List.mem_append_right _ (List.mem_append_right _ (List.mem_append_left _ (List.mem_of_getElem? (l := tables_1_6) (i := 15) rfl)))))))) rfl
theorem q_6_17 : (.instanceMethod yX0_fileAt : Cond) ∈ gT := gT_mem (List.mem_append_right _ (List.mem_append_right _ (List.mem_append_right _ (List.mem_append_right _ (List.mem_append_right _ (List.mem_append_right _ (List.mem_append_left _ (List.mem_of_getElem? (l := tables_1_6) (i := 17) rfl)))))))) rfl
theorem qp_31 : (.selects RX0 yX0_fileAt yX0_fileAt : Cond) ∈ gT := gT_mem (List.mem_append_left _ (List.mem_of_getElem? (l := k2_sels lw_privs) (i := 31) rfl)) rfl
theorem q_6_23 : (.code yX0_needBlocks cX0_needBlocks 2 none : Cond) ∈ gT := gT_mem (List.mem_append_right _ (List.mem_append_right _ (List.mem_append_right _ (List.mem_append_right _ (List.mem_append_right _ (List.mem_append_right _ (List.mem_append_left _ (List.mem_of_getElem? (l := tables_1_6) (i := 23) rfl)))))))) rfl
theorem q_6_20 : (.methodLink RX0 248 yX0_needBlocks : Cond) ∈ gT := gT_mem (List.mem_append_right _ (List.mem_append_right _ (List.mem_append_right _ (List.mem_append_right _ (List.mem_append_right _ (List.mem_append_right _ (List.mem_append_left _ (List.mem_of_getElem? (l := tables_1_6) (i := 20) rfl)))))))) rfl
theorem q_6_22 : (.instanceMethod yX0_needBlocks : Cond) ∈ gT := gT_mem (List.mem_append_right _ (List.mem_append_right _ (List.mem_append_right _ (List.mem_append_right _ (List.mem_append_right _ (List.mem_append_right _ (List.mem_append_left _ (List.mem_of_getElem? (l := tables_1_6) (i := 22) rfl)))))))) rfl
theorem qp_32 : (.selects RX0 yX0_needBlocks yX0_needBlocks : Cond) ∈ gT := gT_mem (List.mem_append_left _ (List.mem_of_getElem? (l := k2_sels lw_privs) (i := 32) rfl)) rfl
theorem q_6_29 : (.methodLink RX4 108 ⟨"InodeDesk$Source", "valueAt", "(I)I"⟩ : Cond) ∈ gT := gT_mem (List.mem_append_right _ (List.mem_append_right _ (List.mem_append_right _ (List.mem_append_right _ (List.mem_append_right _ (List.mem_append_right _ (List.mem_append_left _ (List.mem_of_getElem? (l := tables_1_6) (i := 29) rfl)))))))) rfl
theorem q_6_30 : (.methodLink RX4 113 yX1_put : Cond) ∈ gT := gT_mem (List.mem_append_right _ (List.mem_append_right _ (List.mem_append_right _ (List.mem_append_right _ (List.mem_append_right _ (List.mem_append_right _ (List.mem_append_left _ (List.mem_of_getElem? (l := tables_1_6) (i := 30) rfl)))))))) rfl
theorem q_6_28 : (.code yX4_append cX4_append 9 (some .int) : Cond) ∈ gT := gT_mem (List.mem_append_right _ (List.mem_append_right _ (List.mem_append_right _ (List.mem_append_right _ (List.mem_append_right _ (List.mem_append_right _ (List.mem_append_left _ (List.mem_of_getElem? (l := tables_1_6) (i := 28) rfl)))))))) rfl
theorem q_6_25 : (.methodLink RX0 251 yX4_append : Cond) ∈ gT := gT_mem (List.mem_append_right _ (List.mem_append_right _ (List.mem_append_right _ (List.mem_append_right _ (List.mem_append_right _ (List.mem_append_right _ (List.mem_append_left _ (List.mem_of_getElem? (l := tables_1_6) (i := 25) rfl)))))))) rfl
theorem q_6_26 : (.instanceMethod yX4_append : Cond) ∈ gT := gT_mem (List.mem_append_right _ (List.mem_append_right _ (List.mem_append_right _ (List.mem_append_right _ (List.mem_append_right _ (List.mem_append_right _ (List.mem_append_left _ (List.mem_of_getElem? (l := tables_1_6) (i := 26) rfl)))))))) rfl
theorem q_6_27 : (.selects RX4 yX4_append yX4_append : Cond) ∈ gT := gT_mem (List.mem_append_right _ (List.mem_append_right _ (List.mem_append_right _ (List.mem_append_right _ (List.mem_append_right _ (List.mem_append_right _ (List.mem_append_left _ (List.mem_of_getElem? (l := tables_1_6) (i := 27) rfl)))))))) rfl
theorem q_6_38 : (.constant RX0 255 (400000 : Int32) : Cond) ∈ gT := gT_mem (List.mem_append_right _ (List.mem_append_right _ (List.mem_append_right _ (List.mem_append_right _ (List.mem_append_right _ (List.mem_append_right _ (List.mem_append_left _ (List.mem_of_getElem? (l := tables_1_6) (i := 38) rfl)))))))) rfl
theorem q_6_46 : (.fieldLink RX11 7 "InodeDesk$Pattern" "seed" "I" : Cond) ∈ gT := gT_mem (List.mem_append_right _ (List.mem_append_right _ (List.mem_append_right _ (List.mem_append_right _ (List.mem_append_right _ (List.mem_append_right _ (List.mem_append_left _ (List.mem_of_getElem? (l := tables_1_6) (i := 46) rfl)))))))) rfl
theorem q_5_197 : (.code yX11_valueAt cX11_valueAt 2 (some .int) : Cond) ∈ gT := gT_mem (List.mem_append_right _ (List.mem_append_right _ (List.mem_append_right _ (List.mem_append_right _ (List.mem_append_right _ (List.mem_append_left _ (List.mem_of_getElem? (l := tables_1_5) (i := 197) rfl))))))) rfl
theorem q_5_195 : (.selects RX11 ⟨"InodeDesk$Source", "valueAt", "(I)I"⟩ yX11_valueAt : Cond) ∈ gT := gT_mem (List.mem_append_right _ (List.mem_append_right _ (List.mem_append_right _ (List.mem_append_right _ (List.mem_append_right _ (List.mem_append_left _ (List.mem_of_getElem? (l := tables_1_5) (i := 195) rfl))))))) rfl
theorem q_5_196 : (.instanceMethod yX11_valueAt : Cond) ∈ gT := gT_mem (List.mem_append_right _ (List.mem_append_right _ (List.mem_append_right _ (List.mem_append_right _ (List.mem_append_right _ (List.mem_append_left _ (List.mem_of_getElem? (l := tables_1_5) (i := 196) rfl))))))) rfl
theorem q_1_31 : (.initialized RX11 : Cond) ∈ gT := gT_mem (List.mem_append_right _ (List.mem_append_left _ (List.mem_of_getElem? (l := tables_1_1) (i := 31) rfl))) rfl
theorem q_6_40 : (.classLink RX0 258 RX11 : Cond) ∈ gT := gT_mem (List.mem_append_right _ (List.mem_append_right _ (List.mem_append_right _ (List.mem_append_right _ (List.mem_append_right _ (List.mem_append_right _ (List.mem_append_left _ (List.mem_of_getElem? (l := tables_1_6) (i := 40) rfl)))))))) rfl
theorem q_6_41 : (.instantiable RX11 1 : Cond) ∈ gT := gT_mem (List.mem_append_right _ (List.mem_append_right _ (List.mem_append_right _ (List.mem_append_right _ (List.mem_append_right _ (List.mem_append_right _ (List.mem_append_left _ (List.mem_of_getElem? (l := tables_1_6) (i := 41) rfl)))))))) rfl
theorem q_6_44 : (.code yX11_init cX11_init 2 none : Cond) ∈ gT := gT_mem (List.mem_append_right _ (List.mem_append_right _ (List.mem_append_right _ (List.mem_append_right _ (List.mem_append_right _ (List.mem_append_right _ (List.mem_append_left _ (List.mem_of_getElem? (l := tables_1_6) (i := 44) rfl)))))))) rfl
theorem q_6_42 : (.methodLink RX0 260 yX11_init : Cond) ∈ gT := gT_mem (List.mem_append_right _ (List.mem_append_right _ (List.mem_append_right _ (List.mem_append_right _ (List.mem_append_right _ (List.mem_append_right _ (List.mem_append_left _ (List.mem_of_getElem? (l := tables_1_6) (i := 42) rfl)))))))) rfl
theorem q_6_43 : (.instanceMethod yX11_init : Cond) ∈ gT := gT_mem (List.mem_append_right _ (List.mem_append_right _ (List.mem_append_right _ (List.mem_append_right _ (List.mem_append_right _ (List.mem_append_right _ (List.mem_append_left _ (List.mem_of_getElem? (l := tables_1_6) (i := 43) rfl)))))))) rfl
theorem q_6_62 : (.methodLink RX4 116 yX3_free : Cond) ∈ gT := gT_mem (List.mem_append_right _ (List.mem_append_right _ (List.mem_append_right _ (List.mem_append_right _ (List.mem_append_right _ (List.mem_append_right _ (List.mem_append_left _ (List.mem_of_getElem? (l := tables_1_6) (i := 62) rfl)))))))) rfl
theorem q_6_75 : (.methodLink RX3 86 yX3_isUsed : Cond) ∈ gT := gT_mem (List.mem_append_right _ (List.mem_append_right _ (List.mem_append_right _ (List.mem_append_right _ (List.mem_append_right _ (List.mem_append_right _ (List.mem_append_left _ (List.mem_of_getElem? (l := tables_1_6) (i := 75) rfl)))))))) rfl
theorem q_6_74 : (.code yX3_giveBack cX3_giveBack 2 none : Cond) ∈ gT := gT_mem (List.mem_append_right _ (List.mem_append_right _ (List.mem_append_right _ (List.mem_append_right _ (List.mem_append_right _ (List.mem_append_right _ (List.mem_append_left _ (List.mem_of_getElem? (l := tables_1_6) (i := 74) rfl)))))))) rfl
theorem q_6_71 : (.methodLink RX4 95 yX3_giveBack : Cond) ∈ gT := gT_mem (List.mem_append_right _ (List.mem_append_right _ (List.mem_append_right _ (List.mem_append_right _ (List.mem_append_right _ (List.mem_append_right _ (List.mem_append_left _ (List.mem_of_getElem? (l := tables_1_6) (i := 71) rfl)))))))) rfl
theorem q_6_72 : (.instanceMethod yX3_giveBack : Cond) ∈ gT := gT_mem (List.mem_append_right _ (List.mem_append_right _ (List.mem_append_right _ (List.mem_append_right _ (List.mem_append_right _ (List.mem_append_right _ (List.mem_append_left _ (List.mem_of_getElem? (l := tables_1_6) (i := 72) rfl)))))))) rfl
theorem q_6_73 : (.selects RX3 yX3_giveBack yX3_giveBack : Cond) ∈ gT := gT_mem (List.mem_append_right _ (List.mem_append_right _ (List.mem_append_right _ (List.mem_append_right _ (List.mem_append_right _ (List.mem_append_right _ (List.mem_append_left _ (List.mem_of_getElem? (l := tables_1_6) (i := 73) rfl)))))))) rfl
theorem q_6_70 : (.code yX4_lose cX4_lose 3 none : Cond) ∈ gT := gT_mem (List.mem_append_right _ (List.mem_append_right _ (List.mem_append_right _ (List.mem_append_right _ (List.mem_append_right _ (List.mem_append_right _ (List.mem_append_left _ (List.mem_of_getElem? (l := tables_1_6) (i := 70) rfl)))))))) rfl
theorem q_6_67 : (.methodLink RX4 92 yX4_lose : Cond) ∈ gT := gT_mem (List.mem_append_right _ (List.mem_append_right _ (List.mem_append_right _ (List.mem_append_right _ (List.mem_append_right _ (List.mem_append_right _ (List.mem_append_left _ (List.mem_of_getElem? (l := tables_1_6) (i := 67) rfl)))))))) rfl
theorem q_6_69 : (.instanceMethod yX4_lose : Cond) ∈ gT := gT_mem (List.mem_append_right _ (List.mem_append_right _ (List.mem_append_right _ (List.mem_append_right _ (List.mem_append_right _ (List.mem_append_right _ (List.mem_append_left _ (List.mem_of_getElem? (l := tables_1_6) (i := 69) rfl)))))))) rfl
theorem qp_34 : (.selects RX4 yX4_lose yX4_lose : Cond) ∈ gT := gT_mem (List.mem_append_left _ (List.mem_of_getElem? (l := k2_sels lw_privs) (i := 34) rfl)) rfl
theorem q_6_66 : (.code yX4_dropBlock cX4_dropBlock 4 none : Cond) ∈ gT := gT_mem (List.mem_append_right _ (List.mem_append_right _ (List.mem_append_right _ (List.mem_append_right _ (List.mem_append_right _ (List.mem_append_right _ (List.mem_append_left _ (List.mem_of_getElem? (l := tables_1_6) (i := 66) rfl)))))))) rfl
theorem q_6_63 : (.methodLink RX4 119 yX4_dropBlock : Cond) ∈ gT := gT_mem (List.mem_append_right _ (List.mem_append_right _ (List.mem_append_right _ (List.mem_append_right _ (List.mem_append_right _ (List.mem_append_right _ (List.mem_append_left _ (List.mem_of_getElem? (l := tables_1_6) (i := 63) rfl)))))))) rfl
theorem q_6_65 : (.instanceMethod yX4_dropBlock : Cond) ∈ gT := gT_mem (List.mem_append_right _ (List.mem_append_right _ (List.mem_append_right _ (List.mem_append_right _ (List.mem_append_right _ (List.mem_append_right _ (List.mem_append_left _ (List.mem_of_getElem? (l := tables_1_6) (i := 65) rfl)))))))) rfl
theorem qp_33 : (.selects RX4 yX4_dropBlock yX4_dropBlock : Cond) ∈ gT := gT_mem (List.mem_append_left _ (List.mem_of_getElem? (l := k2_sels lw_privs) (i := 33) rfl)) rfl
theorem q_6_61 : (.code yX4_shorten cX4_shorten 6 (some .int) : Cond) ∈ gT := gT_mem (List.mem_append_right _ (List.mem_append_right _ (List.mem_append_right _ (List.mem_append_right _ (List.mem_append_right _ (List.mem_append_right _ (List.mem_append_left _ (List.mem_of_getElem? (l := tables_1_6) (i := 61) rfl)))))))) rfl
theorem q_6_58 : (.methodLink RX0 263 yX4_shorten : Cond) ∈ gT := gT_mem (List.mem_append_right _ (List.mem_append_right _ (List.mem_append_right _ (List.mem_append_right _ (List.mem_append_right _ (List.mem_append_right _ (List.mem_append_left _ (List.mem_of_getElem? (l := tables_1_6) (i := 58) rfl)))))))) rfl
theorem q_6_59 : (.instanceMethod yX4_shorten : Cond) ∈ gT := gT_mem (List.mem_append_right _ (List.mem_append_right _ (List.mem_append_right _ (List.mem_append_right _ (List.mem_append_right _ (List.mem_append_right _ (List.mem_append_left _ (List.mem_of_getElem? (l := tables_1_6) (i := 59) rfl)))))))) rfl
theorem q_6_60 : (.selects RX4 yX4_shorten yX4_shorten : Cond) ∈ gT := gT_mem (List.mem_append_right _ (List.mem_append_right _ (List.mem_append_right _ (List.mem_append_right _ (List.mem_append_right _ (List.mem_append_right _ (List.mem_append_left _ (List.mem_of_getElem? (l := tables_1_6) (i := 60) rfl)))))))) rfl
theorem q_6_87 : (.code yX5_drop cX5_drop 4 none : Cond) ∈ gT := gT_mem (List.mem_append_right _ (List.mem_append_right _ (List.mem_append_right _ (List.mem_append_right _ (List.mem_append_right _ (List.mem_append_right _ (List.mem_append_left _ (List.mem_of_getElem? (l := tables_1_6) (i := 87) rfl)))))))) rfl
theorem q_6_84 : (.methodLink RX0 268 yX5_drop : Cond) ∈ gT := gT_mem (List.mem_append_right _ (List.mem_append_right _ (List.mem_append_right _ (List.mem_append_right _ (List.mem_append_right _ (List.mem_append_right _ (List.mem_append_left _ (List.mem_of_getElem? (l := tables_1_6) (i := 84) rfl)))))))) rfl
theorem q_6_85 : (.instanceMethod yX5_drop : Cond) ∈ gT := gT_mem (List.mem_append_right _ (List.mem_append_right _ (List.mem_append_right _ (List.mem_append_right _ (List.mem_append_right _ (List.mem_append_right _ (List.mem_append_left _ (List.mem_of_getElem? (l := tables_1_6) (i := 85) rfl)))))))) rfl
theorem q_6_86 : (.selects RX5 yX5_drop yX5_drop : Cond) ∈ gT := gT_mem (List.mem_append_right _ (List.mem_append_right _ (List.mem_append_right _ (List.mem_append_right _ (List.mem_append_right _ (List.mem_append_right _ (List.mem_append_left _ (List.mem_of_getElem? (l := tables_1_6) (i := 86) rfl)))))))) rfl
theorem q_6_91 : (.code yX4_erase cX4_erase 3 none : Cond) ∈ gT := gT_mem (List.mem_append_right _ (List.mem_append_right _ (List.mem_append_right _ (List.mem_append_right _ (List.mem_append_right _ (List.mem_append_right _ (List.mem_append_left _ (List.mem_of_getElem? (l := tables_1_6) (i := 91) rfl)))))))) rfl
theorem q_6_88 : (.methodLink RX0 271 yX4_erase : Cond) ∈ gT := gT_mem (List.mem_append_right _ (List.mem_append_right _ (List.mem_append_right _ (List.mem_append_right _ (List.mem_append_right _ (List.mem_append_right _ (List.mem_append_left _ (List.mem_of_getElem? (l := tables_1_6) (i := 88) rfl)))))))) rfl
theorem q_6_89 : (.instanceMethod yX4_erase : Cond) ∈ gT := gT_mem (List.mem_append_right _ (List.mem_append_right _ (List.mem_append_right _ (List.mem_append_right _ (List.mem_append_right _ (List.mem_append_right _ (List.mem_append_left _ (List.mem_of_getElem? (l := tables_1_6) (i := 89) rfl)))))))) rfl
theorem q_6_90 : (.selects RX4 yX4_erase yX4_erase : Cond) ∈ gT := gT_mem (List.mem_append_right _ (List.mem_append_right _ (List.mem_append_right _ (List.mem_append_right _ (List.mem_append_right _ (List.mem_append_right _ (List.mem_append_left _ (List.mem_of_getElem? (l := tables_1_6) (i := 90) rfl)))))))) rfl
theorem q_6_92 : (.methodLink RX0 274 yX3_giveBack : Cond) ∈ gT := gT_mem (List.mem_append_right _ (List.mem_append_right _ (List.mem_append_right _ (List.mem_append_right _ (List.mem_append_right _ (List.mem_append_right _ (List.mem_append_left _ (List.mem_of_getElem? (l := tables_1_6) (i := 92) rfl)))))))) rfl
theorem q_6_104 : (.code yX4_setTime cX4_setTime 5 none : Cond) ∈ gT := gT_mem (List.mem_append_right _ (List.mem_append_right _ (List.mem_append_right _ (List.mem_append_right _ (List.mem_append_right _ (List.mem_append_right _ (List.mem_append_left _ (List.mem_of_getElem? (l := tables_1_6) (i := 104) rfl)))))))) rfl
theorem q_6_101 : (.methodLink RX0 279 yX4_setTime : Cond) ∈ gT := gT_mem (List.mem_append_right _ (List.mem_append_right _ (List.mem_append_right _ (List.mem_append_right _ (List.mem_append_right _ (List.mem_append_right _ (List.mem_append_left _ (List.mem_of_getElem? (l := tables_1_6) (i := 101) rfl)))))))) rfl
theorem q_6_102 : (.instanceMethod yX4_setTime : Cond) ∈ gT := gT_mem (List.mem_append_right _ (List.mem_append_right _ (List.mem_append_right _ (List.mem_append_right _ (List.mem_append_right _ (List.mem_append_right _ (List.mem_append_left _ (List.mem_of_getElem? (l := tables_1_6) (i := 102) rfl)))))))) rfl
theorem q_6_103 : (.selects RX4 yX4_setTime yX4_setTime : Cond) ∈ gT := gT_mem (List.mem_append_right _ (List.mem_append_right _ (List.mem_append_right _ (List.mem_append_right _ (List.mem_append_right _ (List.mem_append_right _ (List.mem_append_left _ (List.mem_of_getElem? (l := tables_1_6) (i := 103) rfl)))))))) rfl
theorem q_6_112 : (.fieldLink RX12 72 "InodeDeskModel" "thrown" "I" : Cond) ∈ gT := gT_mem (List.mem_append_right _ (List.mem_append_right _ (List.mem_append_right _ (List.mem_append_right _ (List.mem_append_right _ (List.mem_append_right _ (List.mem_append_left _ (List.mem_of_getElem? (l := tables_1_6) (i := 112) rfl)))))))) rfl
theorem q_6_117 : (.fieldLink RX12 20 "InodeDeskModel" "ready" "[B" : Cond) ∈ gT := gT_mem (List.mem_append_right _ (List.mem_append_right _ (List.mem_append_right _ (List.mem_append_right _ (List.mem_append_right _ (List.mem_append_right _ (List.mem_append_left _ (List.mem_of_getElem? (l := tables_1_6) (i := 117) rfl)))))))) rfl
theorem q_6_118 : (.fieldLink RX12 75 "InodeDeskModel" "taped" "I" : Cond) ∈ gT := gT_mem (List.mem_append_right _ (List.mem_append_right _ (List.mem_append_right _ (List.mem_append_right _ (List.mem_append_right _ (List.mem_append_right _ (List.mem_append_left _ (List.mem_of_getElem? (l := tables_1_6) (i := 118) rfl)))))))) rfl
theorem q_6_116 : (.fieldLink RX12 17 "InodeDeskModel" "tape" "[B" : Cond) ∈ gT := gT_mem (List.mem_append_right _ (List.mem_append_right _ (List.mem_append_right _ (List.mem_append_right _ (List.mem_append_right _ (List.mem_append_right _ (List.mem_append_left _ (List.mem_of_getElem? (l := tables_1_6) (i := 116) rfl)))))))) rfl
theorem q_6_121 : (.fieldLink RX12 78 "InodeDeskModel" "p" "I" : Cond) ∈ gT := gT_mem (List.mem_append_right _ (List.mem_append_right _ (List.mem_append_right _ (List.mem_append_right _ (List.mem_append_right _ (List.mem_append_right _ (List.mem_append_left _ (List.mem_of_getElem? (l := tables_1_6) (i := 121) rfl)))))))) rfl
theorem q_6_124 : (.fieldLink RX12 81 "InodeDeskModel" "q" "I" : Cond) ∈ gT := gT_mem (List.mem_append_right _ (List.mem_append_right _ (List.mem_append_right _ (List.mem_append_right _ (List.mem_append_right _ (List.mem_append_right _ (List.mem_append_left _ (List.mem_of_getElem? (l := tables_1_6) (i := 124) rfl)))))))) rfl
theorem q_6_113 : (.fieldLink RX12 68 "InodeDeskModel" "blocks" "I" : Cond) ∈ gT := gT_mem (List.mem_append_right _ (List.mem_append_right _ (List.mem_append_right _ (List.mem_append_right _ (List.mem_append_right _ (List.mem_append_right _ (List.mem_append_left _ (List.mem_of_getElem? (l := tables_1_6) (i := 113) rfl)))))))) rfl
theorem q_7_40 : (.code yX12_begin cX12_begin 2 (some .int) : Cond) ∈ gT := gT_mem (List.mem_append_right _ (List.mem_append_right _ (List.mem_append_right _ (List.mem_append_right _ (List.mem_append_right _ (List.mem_append_right _ (List.mem_append_right _ (List.mem_of_getElem? (l := tables_1_7) (i := 40) rfl)))))))) rfl
theorem q_7_37 : (.methodLink RX12 84 yX12_begin : Cond) ∈ gT := gT_mem (List.mem_append_right _ (List.mem_append_right _ (List.mem_append_right _ (List.mem_append_right _ (List.mem_append_right _ (List.mem_append_right _ (List.mem_append_right _ (List.mem_of_getElem? (l := tables_1_7) (i := 37) rfl)))))))) rfl
theorem q_7_39 : (.instanceMethod yX12_begin : Cond) ∈ gT := gT_mem (List.mem_append_right _ (List.mem_append_right _ (List.mem_append_right _ (List.mem_append_right _ (List.mem_append_right _ (List.mem_append_right _ (List.mem_append_right _ (List.mem_of_getElem? (l := tables_1_7) (i := 39) rfl)))))))) rfl
theorem qp_45 : (.selects RX12 yX12_begin yX12_begin : Cond) ∈ gT := gT_mem (List.mem_append_left _ (List.mem_of_getElem? (l := k2_sels lw_privs) (i := 45) rfl)) rfl
theorem q_1_12 : (.initialized RX12 : Cond) ∈ gT := gT_mem (List.mem_append_right _ (List.mem_append_left _ (List.mem_of_getElem? (l := tables_1_1) (i := 12) rfl))) rfl
theorem q_6_123 : (.fieldLink RX12 88 "InodeDeskModel" "j" "I" : Cond) ∈ gT := gT_mem (List.mem_append_right _ (List.mem_append_right _ (List.mem_append_right _ (List.mem_append_right _ (List.mem_append_right _ (List.mem_append_right _ (List.mem_append_left _ (List.mem_of_getElem? (l := tables_1_6) (i := 123) rfl)))))))) rfl
theorem q_6_126 : (.fieldLink RX12 23 "InodeDeskModel" "used" "[Z" : Cond) ∈ gT := gT_mem (List.mem_append_right _ (List.mem_append_right _ (List.mem_append_right _ (List.mem_append_right _ (List.mem_append_right _ (List.mem_append_right _ (List.mem_append_left _ (List.mem_of_getElem? (l := tables_1_6) (i := 126) rfl)))))))) rfl
theorem q_6_122 : (.fieldLink RX12 91 "InodeDeskModel" "g" "I" : Cond) ∈ gT := gT_mem (List.mem_append_right _ (List.mem_append_right _ (List.mem_append_right _ (List.mem_append_right _ (List.mem_append_right _ (List.mem_append_right _ (List.mem_append_left _ (List.mem_of_getElem? (l := tables_1_6) (i := 122) rfl)))))))) rfl
theorem q_6_128 : (.fieldLink RX12 31 "InodeDeskModel" "kind" "[I" : Cond) ∈ gT := gT_mem (List.mem_append_right _ (List.mem_append_right _ (List.mem_append_right _ (List.mem_append_right _ (List.mem_append_right _ (List.mem_append_right _ (List.mem_append_left _ (List.mem_of_getElem? (l := tables_1_6) (i := 128) rfl)))))))) rfl
theorem q_6_127 : (.fieldLink RX12 27 "InodeDeskModel" "next" "[I" : Cond) ∈ gT := gT_mem (List.mem_append_right _ (List.mem_append_right _ (List.mem_append_right _ (List.mem_append_right _ (List.mem_append_right _ (List.mem_append_right _ (List.mem_append_left _ (List.mem_of_getElem? (l := tables_1_6) (i := 127) rfl)))))))) rfl
theorem q_6_114 : (.fieldLink RX12 8 "InodeDeskModel" "data" "[B" : Cond) ∈ gT := gT_mem (List.mem_append_right _ (List.mem_append_right _ (List.mem_append_right _ (List.mem_append_right _ (List.mem_append_right _ (List.mem_append_right _ (List.mem_append_left _ (List.mem_of_getElem? (l := tables_1_6) (i := 114) rfl)))))))) rfl
theorem q_6_232 : (.code yX12_parts cX12_parts 2 (some .int) : Cond) ∈ gT := gT_mem (List.mem_append_right _ (List.mem_append_right _ (List.mem_append_right _ (List.mem_append_right _ (List.mem_append_right _ (List.mem_append_right _ (List.mem_append_left _ (List.mem_of_getElem? (l := tables_1_6) (i := 232) rfl)))))))) rfl
theorem q_6_230 : (.methodLink RX12 94 yX12_parts : Cond) ∈ gT := gT_mem (List.mem_append_right _ (List.mem_append_right _ (List.mem_append_right _ (List.mem_append_right _ (List.mem_append_right _ (List.mem_append_right _ (List.mem_append_left _ (List.mem_of_getElem? (l := tables_1_6) (i := 230) rfl)))))))) rfl
theorem q_6_231 : (.static yX12_parts : Cond) ∈ gT := gT_mem (List.mem_append_right _ (List.mem_append_right _ (List.mem_append_right _ (List.mem_append_right _ (List.mem_append_right _ (List.mem_append_right _ (List.mem_append_left _ (List.mem_of_getElem? (l := tables_1_6) (i := 231) rfl)))))))) rfl
theorem q_6_131 : (.fieldLink RX12 40 "InodeDeskModel" "many" "[I" : Cond) ∈ gT := gT_mem (List.mem_append_right _ (List.mem_append_right _ (List.mem_append_right _ (List.mem_append_right _ (List.mem_append_right _ (List.mem_append_right _ (List.mem_append_left _ (List.mem_of_getElem? (l := tables_1_6) (i := 131) rfl)))))))) rfl
theorem q_7_12 : (.code yX12_take cX12_take 3 (some .int) : Cond) ∈ gT := gT_mem (List.mem_append_right _ (List.mem_append_right _ (List.mem_append_right _ (List.mem_append_right _ (List.mem_append_right _ (List.mem_append_right _ (List.mem_append_right _ (List.mem_of_getElem? (l := tables_1_7) (i := 12) rfl)))))))) rfl
theorem q_7_9 : (.methodLink RX12 98 yX12_take : Cond) ∈ gT := gT_mem (List.mem_append_right _ (List.mem_append_right _ (List.mem_append_right _ (List.mem_append_right _ (List.mem_append_right _ (List.mem_append_right _ (List.mem_append_right _ (List.mem_of_getElem? (l := tables_1_7) (i := 9) rfl)))))))) rfl
theorem q_7_11 : (.instanceMethod yX12_take : Cond) ∈ gT := gT_mem (List.mem_append_right _ (List.mem_append_right _ (List.mem_append_right _ (List.mem_append_right _ (List.mem_append_right _ (List.mem_append_right _ (List.mem_append_right _ (List.mem_of_getElem? (l := tables_1_7) (i := 11) rfl)))))))) rfl
theorem qp_39 : (.selects RX12 yX12_take yX12_take : Cond) ∈ gT := gT_mem (List.mem_append_left _ (List.mem_of_getElem? (l := k2_sels lw_privs) (i := 39) rfl)) rfl
theorem q_6_133 : (.fieldLink RX12 46 "InodeDeskModel" "last" "[I" : Cond) ∈ gT := gT_mem (List.mem_append_right _ (List.mem_append_right _ (List.mem_append_right _ (List.mem_append_right _ (List.mem_append_right _ (List.mem_append_right _ (List.mem_append_left _ (List.mem_of_getElem? (l := tables_1_6) (i := 133) rfl)))))))) rfl
theorem q_6_132 : (.fieldLink RX12 43 "InodeDeskModel" "first" "[I" : Cond) ∈ gT := gT_mem (List.mem_append_right _ (List.mem_append_right _ (List.mem_append_right _ (List.mem_append_right _ (List.mem_append_right _ (List.mem_append_right _ (List.mem_append_left _ (List.mem_of_getElem? (l := tables_1_6) (i := 132) rfl)))))))) rfl
theorem q_6_136 : (.fieldLink RX12 55 "InodeDeskModel" "far" "[I" : Cond) ∈ gT := gT_mem (List.mem_append_right _ (List.mem_append_right _ (List.mem_append_right _ (List.mem_append_right _ (List.mem_append_right _ (List.mem_append_right _ (List.mem_append_left _ (List.mem_of_getElem? (l := tables_1_6) (i := 136) rfl)))))))) rfl
theorem q_6_135 : (.fieldLink RX12 52 "InodeDeskModel" "twofold" "[I" : Cond) ∈ gT := gT_mem (List.mem_append_right _ (List.mem_append_right _ (List.mem_append_right _ (List.mem_append_right _ (List.mem_append_right _ (List.mem_append_right _ (List.mem_append_left _ (List.mem_of_getElem? (l := tables_1_6) (i := 135) rfl)))))))) rfl
theorem q_6_134 : (.fieldLink RX12 49 "InodeDeskModel" "single" "[I" : Cond) ∈ gT := gT_mem (List.mem_append_right _ (List.mem_append_right _ (List.mem_append_right _ (List.mem_append_right _ (List.mem_append_right _ (List.mem_append_right _ (List.mem_append_left _ (List.mem_of_getElem? (l := tables_1_6) (i := 134) rfl)))))))) rfl
theorem q_7_110 : (.code yX12_one cX12_one 2 (some .int) : Cond) ∈ gT := gT_mem (List.mem_append_right _ (List.mem_append_right _ (List.mem_append_right _ (List.mem_append_right _ (List.mem_append_right _ (List.mem_append_right _ (List.mem_append_right _ (List.mem_of_getElem? (l := tables_1_7) (i := 110) rfl)))))))) rfl
theorem q_7_107 : (.methodLink RX12 102 yX12_one : Cond) ∈ gT := gT_mem (List.mem_append_right _ (List.mem_append_right _ (List.mem_append_right _ (List.mem_append_right _ (List.mem_append_right _ (List.mem_append_right _ (List.mem_append_right _ (List.mem_of_getElem? (l := tables_1_7) (i := 107) rfl)))))))) rfl
theorem q_7_109 : (.instanceMethod yX12_one : Cond) ∈ gT := gT_mem (List.mem_append_right _ (List.mem_append_right _ (List.mem_append_right _ (List.mem_append_right _ (List.mem_append_right _ (List.mem_append_right _ (List.mem_append_right _ (List.mem_of_getElem? (l := tables_1_7) (i := 109) rfl)))))))) rfl
theorem qp_57 : (.selects RX12 yX12_one yX12_one : Cond) ∈ gT := gT_mem (List.mem_append_left _ (List.mem_of_getElem? (l := k2_sels lw_privs) (i := 57) rfl)) rfl
theorem q_7_106 : (.code yX12_two cX12_two 2 (some .int) : Cond) ∈ gT := gT_mem (List.mem_append_right _ (List.mem_append_right _ (List.mem_append_right _ (List.mem_append_right _ (List.mem_append_right _ (List.mem_append_right _ (List.mem_append_right _ (List.mem_of_getElem? (l := tables_1_7) (i := 106) rfl)))))))) rfl
theorem q_7_103 : (.methodLink RX12 105 yX12_two : Cond) ∈ gT := gT_mem (List.mem_append_right _ (List.mem_append_right _ (List.mem_append_right _ (List.mem_append_right _ (List.mem_append_right _ (List.mem_append_right _ (List.mem_append_right _ (List.mem_of_getElem? (l := tables_1_7) (i := 103) rfl)))))))) rfl
theorem q_7_105 : (.instanceMethod yX12_two : Cond) ∈ gT := gT_mem (List.mem_append_right _ (List.mem_append_right _ (List.mem_append_right _ (List.mem_append_right _ (List.mem_append_right _ (List.mem_append_right _ (List.mem_append_right _ (List.mem_of_getElem? (l := tables_1_7) (i := 105) rfl)))))))) rfl
theorem qp_56 : (.selects RX12 yX12_two yX12_two : Cond) ∈ gT := gT_mem (List.mem_append_left _ (List.mem_of_getElem? (l := k2_sels lw_privs) (i := 56) rfl)) rfl
theorem q_7_111 : (.constant RX12 108 (65536 : Int32) : Cond) ∈ gT := gT_mem (List.mem_append_right _ (List.mem_append_right _ (List.mem_append_right _ (List.mem_append_right _ (List.mem_append_right _ (List.mem_append_right _ (List.mem_append_right _ (List.mem_of_getElem? (l := tables_1_7) (i := 111) rfl)))))))) rfl
theorem q_6_143 : (.fieldLink RX12 109 "InodeDeskModel" "length" "I" : Cond) ∈ gT := gT_mem (List.mem_append_right _ (List.mem_append_right _ (List.mem_append_right _ (List.mem_append_right _ (List.mem_append_right _ (List.mem_append_right _ (List.mem_append_left _ (List.mem_of_getElem? (l := tables_1_6) (i := 143) rfl)))))))) rfl
theorem q_7_20 : (.code yX12_set cX12_set 5 none : Cond) ∈ gT := gT_mem (List.mem_append_right _ (List.mem_append_right _ (List.mem_append_right _ (List.mem_append_right _ (List.mem_append_right _ (List.mem_append_right _ (List.mem_append_right _ (List.mem_of_getElem? (l := tables_1_7) (i := 20) rfl)))))))) rfl
theorem q_7_17 : (.methodLink RX12 112 yX12_set : Cond) ∈ gT := gT_mem (List.mem_append_right _ (List.mem_append_right _ (List.mem_append_right _ (List.mem_append_right _ (List.mem_append_right _ (List.mem_append_right _ (List.mem_append_right _ (List.mem_of_getElem? (l := tables_1_7) (i := 17) rfl)))))))) rfl
theorem q_7_19 : (.instanceMethod yX12_set : Cond) ∈ gT := gT_mem (List.mem_append_right _ (List.mem_append_right _ (List.mem_append_right _ (List.mem_append_right _ (List.mem_append_right _ (List.mem_append_right _ (List.mem_append_right _ (List.mem_of_getElem? (l := tables_1_7) (i := 19) rfl)))))))) rfl
theorem qp_41 : (.selects RX12 yX12_set yX12_set : Cond) ∈ gT := gT_mem (List.mem_append_left _ (List.mem_of_getElem? (l := k2_sels lw_privs) (i := 41) rfl)) rfl
theorem q_6_142 : (.fieldLink RX12 65 "InodeDeskModel" "name" "[I" : Cond) ∈ gT := gT_mem (List.mem_append_right _ (List.mem_append_right _ (List.mem_append_right _ (List.mem_append_right _ (List.mem_append_right _ (List.mem_append_right _ (List.mem_append_left _ (List.mem_of_getElem? (l := tables_1_6) (i := 142) rfl)))))))) rfl
theorem q_6_125 : (.fieldLink RX12 116 "InodeDeskModel" "id" "I" : Cond) ∈ gT := gT_mem (List.mem_append_right _ (List.mem_append_right _ (List.mem_append_right _ (List.mem_append_right _ (List.mem_append_right _ (List.mem_append_right _ (List.mem_append_left _ (List.mem_of_getElem? (l := tables_1_6) (i := 125) rfl)))))))) rfl
theorem q_6_137 : (.fieldLink RX12 58 "InodeDeskModel" "parent" "[I" : Cond) ∈ gT := gT_mem (List.mem_append_right _ (List.mem_append_right _ (List.mem_append_right _ (List.mem_append_right _ (List.mem_append_right _ (List.mem_append_right _ (List.mem_append_left _ (List.mem_of_getElem? (l := tables_1_6) (i := 137) rfl)))))))) rfl
theorem q_6_130 : (.fieldLink RX12 37 "InodeDeskModel" "links" "[I" : Cond) ∈ gT := gT_mem (List.mem_append_right _ (List.mem_append_right _ (List.mem_append_right _ (List.mem_append_right _ (List.mem_append_right _ (List.mem_append_right _ (List.mem_append_left _ (List.mem_of_getElem? (l := tables_1_6) (i := 130) rfl)))))))) rfl
theorem q_7_8 : (.code yX12_gain cX12_gain 5 none : Cond) ∈ gT := gT_mem (List.mem_append_right _ (List.mem_append_right _ (List.mem_append_right _ (List.mem_append_right _ (List.mem_append_right _ (List.mem_append_right _ (List.mem_append_right _ (List.mem_of_getElem? (l := tables_1_7) (i := 8) rfl)))))))) rfl
theorem q_7_5 : (.methodLink RX12 143 yX12_gain : Cond) ∈ gT := gT_mem (List.mem_append_right _ (List.mem_append_right _ (List.mem_append_right _ (List.mem_append_right _ (List.mem_append_right _ (List.mem_append_right _ (List.mem_append_right _ (List.mem_of_getElem? (l := tables_1_7) (i := 5) rfl)))))))) rfl
theorem q_7_7 : (.instanceMethod yX12_gain : Cond) ∈ gT := gT_mem (List.mem_append_right _ (List.mem_append_right _ (List.mem_append_right _ (List.mem_append_right _ (List.mem_append_right _ (List.mem_append_right _ (List.mem_append_right _ (List.mem_of_getElem? (l := tables_1_7) (i := 7) rfl)))))))) rfl
theorem qp_38 : (.selects RX12 yX12_gain yX12_gain : Cond) ∈ gT := gT_mem (List.mem_append_left _ (List.mem_of_getElem? (l := k2_sels lw_privs) (i := 38) rfl)) rfl
theorem q_6_129 : (.fieldLink RX12 34 "InodeDeskModel" "size" "[I" : Cond) ∈ gT := gT_mem (List.mem_append_right _ (List.mem_append_right _ (List.mem_append_right _ (List.mem_append_right _ (List.mem_append_right _ (List.mem_append_right _ (List.mem_append_left _ (List.mem_of_getElem? (l := tables_1_6) (i := 129) rfl)))))))) rfl
theorem q_7_16 : (.code yX12_entry cX12_entry 7 none : Cond) ∈ gT := gT_mem (List.mem_append_right _ (List.mem_append_right _ (List.mem_append_right _ (List.mem_append_right _ (List.mem_append_right _ (List.mem_append_right _ (List.mem_append_right _ (List.mem_of_getElem? (l := tables_1_7) (i := 16) rfl)))))))) rfl
theorem q_7_13 : (.methodLink RX12 146 yX12_entry : Cond) ∈ gT := gT_mem (List.mem_append_right _ (List.mem_append_right _ (List.mem_append_right _ (List.mem_append_right _ (List.mem_append_right _ (List.mem_append_right _ (List.mem_append_right _ (List.mem_of_getElem? (l := tables_1_7) (i := 13) rfl)))))))) rfl
theorem q_7_15 : (.instanceMethod yX12_entry : Cond) ∈ gT := gT_mem (List.mem_append_right _ (List.mem_append_right _ (List.mem_append_right _ (List.mem_append_right _ (List.mem_append_right _ (List.mem_append_right _ (List.mem_append_right _ (List.mem_of_getElem? (l := tables_1_7) (i := 15) rfl)))))))) rfl
theorem qp_40 : (.selects RX12 yX12_entry yX12_entry : Cond) ∈ gT := gT_mem (List.mem_append_left _ (List.mem_of_getElem? (l := k2_sels lw_privs) (i := 40) rfl)) rfl
theorem q_7_4 : (.code yX12_folder cX12_folder 5 none : Cond) ∈ gT := gT_mem (List.mem_append_right _ (List.mem_append_right _ (List.mem_append_right _ (List.mem_append_right _ (List.mem_append_right _ (List.mem_append_right _ (List.mem_append_right _ (List.mem_of_getElem? (l := tables_1_7) (i := 4) rfl)))))))) rfl
theorem q_7_1 : (.methodLink RX12 127 yX12_folder : Cond) ∈ gT := gT_mem (List.mem_append_right _ (List.mem_append_right _ (List.mem_append_right _ (List.mem_append_right _ (List.mem_append_right _ (List.mem_append_right _ (List.mem_append_right _ (List.mem_of_getElem? (l := tables_1_7) (i := 1) rfl)))))))) rfl
theorem q_7_3 : (.instanceMethod yX12_folder : Cond) ∈ gT := gT_mem (List.mem_append_right _ (List.mem_append_right _ (List.mem_append_right _ (List.mem_append_right _ (List.mem_append_right _ (List.mem_append_right _ (List.mem_append_right _ (List.mem_of_getElem? (l := tables_1_7) (i := 3) rfl)))))))) rfl
theorem qp_37 : (.selects RX12 yX12_folder yX12_folder : Cond) ∈ gT := gT_mem (List.mem_append_left _ (List.mem_of_getElem? (l := k2_sels lw_privs) (i := 37) rfl)) rfl
theorem q_6_139 : (.fieldLink RX12 130 "InodeDeskModel" "here" "I" : Cond) ∈ gT := gT_mem (List.mem_append_right _ (List.mem_append_right _ (List.mem_append_right _ (List.mem_append_right _ (List.mem_append_right _ (List.mem_append_right _ (List.mem_append_left _ (List.mem_of_getElem? (l := tables_1_6) (i := 139) rfl)))))))) rfl
theorem q_6_119 : (.fieldLink RX12 133 "InodeDeskModel" "made" "Z" : Cond) ∈ gT := gT_mem (List.mem_append_right _ (List.mem_append_right _ (List.mem_append_right _ (List.mem_append_right _ (List.mem_append_right _ (List.mem_append_right _ (List.mem_append_left _ (List.mem_of_getElem? (l := tables_1_6) (i := 119) rfl)))))))) rfl
theorem q_6_120 : (.fieldLink RX12 137 "InodeDeskModel" "shown" "Z" : Cond) ∈ gT := gT_mem (List.mem_append_right _ (List.mem_append_right _ (List.mem_append_right _ (List.mem_append_right _ (List.mem_append_right _ (List.mem_append_right _ (List.mem_append_left _ (List.mem_of_getElem? (l := tables_1_6) (i := 120) rfl)))))))) rfl
theorem q_7_24 : (.code yX12_freeBlocks cX12_freeBlocks 3 (some .int) : Cond) ∈ gT := gT_mem (List.mem_append_right _ (List.mem_append_right _ (List.mem_append_right _ (List.mem_append_right _ (List.mem_append_right _ (List.mem_append_right _ (List.mem_append_right _ (List.mem_of_getElem? (l := tables_1_7) (i := 24) rfl)))))))) rfl
theorem q_7_21 : (.methodLink RX12 140 yX12_freeBlocks : Cond) ∈ gT := gT_mem (List.mem_append_right _ (List.mem_append_right _ (List.mem_append_right _ (List.mem_append_right _ (List.mem_append_right _ (List.mem_append_right _ (List.mem_append_right _ (List.mem_of_getElem? (l := tables_1_7) (i := 21) rfl)))))))) rfl
theorem q_7_23 : (.instanceMethod yX12_freeBlocks : Cond) ∈ gT := gT_mem (List.mem_append_right _ (List.mem_append_right _ (List.mem_append_right _ (List.mem_append_right _ (List.mem_append_right _ (List.mem_append_right _ (List.mem_append_right _ (List.mem_of_getElem? (l := tables_1_7) (i := 23) rfl)))))))) rfl
theorem qp_42 : (.selects RX12 yX12_freeBlocks yX12_freeBlocks : Cond) ∈ gT := gT_mem (List.mem_append_left _ (List.mem_of_getElem? (l := k2_sels lw_privs) (i := 42) rfl)) rfl
theorem q_6_138 : (.fieldLink RX12 61 "InodeDeskModel" "time" "[J" : Cond) ∈ gT := gT_mem (List.mem_append_right _ (List.mem_append_right _ (List.mem_append_right _ (List.mem_append_right _ (List.mem_append_right _ (List.mem_append_right _ (List.mem_append_left _ (List.mem_of_getElem? (l := tables_1_6) (i := 138) rfl)))))))) rfl
theorem q_7_0 : (.code yX12_clear cX12_clear 3 none : Cond) ∈ gT := gT_mem (List.mem_append_right _ (List.mem_append_right _ (List.mem_append_right _ (List.mem_append_right _ (List.mem_append_right _ (List.mem_append_right _ (List.mem_append_right _ (List.mem_of_getElem? (l := tables_1_7) (i := 0) rfl)))))))) rfl
theorem q_6_237 : (.methodLink RX12 123 yX12_clear : Cond) ∈ gT := gT_mem (List.mem_append_right _ (List.mem_append_right _ (List.mem_append_right _ (List.mem_append_right _ (List.mem_append_right _ (List.mem_append_right _ (List.mem_append_left _ (List.mem_of_getElem? (l := tables_1_6) (i := 237) rfl)))))))) rfl
theorem q_6_239 : (.instanceMethod yX12_clear : Cond) ∈ gT := gT_mem (List.mem_append_right _ (List.mem_append_right _ (List.mem_append_right _ (List.mem_append_right _ (List.mem_append_right _ (List.mem_append_right _ (List.mem_append_left _ (List.mem_of_getElem? (l := tables_1_6) (i := 239) rfl)))))))) rfl
theorem qp_36 : (.selects RX12 yX12_clear yX12_clear : Cond) ∈ gT := gT_mem (List.mem_append_left _ (List.mem_of_getElem? (l := k2_sels lw_privs) (i := 36) rfl)) rfl
theorem q_6_236 : (.code yX12_isFixed cX12_isFixed 2 (some .boolean) : Cond) ∈ gT := gT_mem (List.mem_append_right _ (List.mem_append_right _ (List.mem_append_right _ (List.mem_append_right _ (List.mem_append_right _ (List.mem_append_right _ (List.mem_append_left _ (List.mem_of_getElem? (l := tables_1_6) (i := 236) rfl)))))))) rfl
theorem q_6_233 : (.methodLink RX12 119 yX12_isFixed : Cond) ∈ gT := gT_mem (List.mem_append_right _ (List.mem_append_right _ (List.mem_append_right _ (List.mem_append_right _ (List.mem_append_right _ (List.mem_append_right _ (List.mem_append_left _ (List.mem_of_getElem? (l := tables_1_6) (i := 233) rfl)))))))) rfl
theorem q_6_235 : (.instanceMethod yX12_isFixed : Cond) ∈ gT := gT_mem (List.mem_append_right _ (List.mem_append_right _ (List.mem_append_right _ (List.mem_append_right _ (List.mem_append_right _ (List.mem_append_right _ (List.mem_append_left _ (List.mem_of_getElem? (l := tables_1_6) (i := 235) rfl)))))))) rfl
theorem qp_35 : (.selects RX12 yX12_isFixed yX12_isFixed : Cond) ∈ gT := gT_mem (List.mem_append_left _ (List.mem_of_getElem? (l := k2_sels lw_privs) (i := 35) rfl)) rfl
theorem q_6_115 : (.fieldLink RX12 14 "InodeDeskModel" "image" "[B" : Cond) ∈ gT := gT_mem (List.mem_append_right _ (List.mem_append_right _ (List.mem_append_right _ (List.mem_append_right _ (List.mem_append_right _ (List.mem_append_right _ (List.mem_append_left _ (List.mem_of_getElem? (l := tables_1_6) (i := 115) rfl)))))))) rfl
theorem q_7_65 : (.code yX12_inodeAt cX12_inodeAt 2 (some .int) : Cond) ∈ gT := gT_mem (List.mem_append_right _ (List.mem_append_right _ (List.mem_append_right _ (List.mem_append_right _ (List.mem_append_right _ (List.mem_append_right _ (List.mem_append_right _ (List.mem_of_getElem? (l := tables_1_7) (i := 65) rfl)))))))) rfl
theorem q_7_62 : (.methodLink RX12 150 yX12_inodeAt : Cond) ∈ gT := gT_mem (List.mem_append_right _ (List.mem_append_right _ (List.mem_append_right _ (List.mem_append_right _ (List.mem_append_right _ (List.mem_append_right _ (List.mem_append_right _ (List.mem_of_getElem? (l := tables_1_7) (i := 62) rfl)))))))) rfl
theorem q_7_64 : (.instanceMethod yX12_inodeAt : Cond) ∈ gT := gT_mem (List.mem_append_right _ (List.mem_append_right _ (List.mem_append_right _ (List.mem_append_right _ (List.mem_append_right _ (List.mem_append_right _ (List.mem_append_right _ (List.mem_of_getElem? (l := tables_1_7) (i := 64) rfl)))))))) rfl
theorem qp_50 : (.selects RX12 yX12_inodeAt yX12_inodeAt : Cond) ∈ gT := gT_mem (List.mem_append_left _ (List.mem_of_getElem? (l := k2_sels lw_privs) (i := 50) rfl)) rfl
theorem q_7_67 : (.constantLong RX12 155 (33188 : Int64) : Cond) ∈ gT := gT_mem (List.mem_append_right _ (List.mem_append_right _ (List.mem_append_right _ (List.mem_append_right _ (List.mem_append_right _ (List.mem_append_right _ (List.mem_append_right _ (List.mem_of_getElem? (l := tables_1_7) (i := 67) rfl)))))))) rfl
theorem q_7_48 : (.code yX12_put cX12_put 6 none : Cond) ∈ gT := gT_mem (List.mem_append_right _ (List.mem_append_right _ (List.mem_append_right _ (List.mem_append_right _ (List.mem_append_right _ (List.mem_append_right _ (List.mem_append_right _ (List.mem_of_getElem? (l := tables_1_7) (i := 48) rfl)))))))) rfl
theorem q_7_45 : (.methodLink RX12 157 yX12_put : Cond) ∈ gT := gT_mem (List.mem_append_right _ (List.mem_append_right _ (List.mem_append_right _ (List.mem_append_right _ (List.mem_append_right _ (List.mem_append_right _ (List.mem_append_right _ (List.mem_of_getElem? (l := tables_1_7) (i := 45) rfl)))))))) rfl
theorem q_7_47 : (.instanceMethod yX12_put : Cond) ∈ gT := gT_mem (List.mem_append_right _ (List.mem_append_right _ (List.mem_append_right _ (List.mem_append_right _ (List.mem_append_right _ (List.mem_append_right _ (List.mem_append_right _ (List.mem_of_getElem? (l := tables_1_7) (i := 47) rfl)))))))) rfl
theorem qp_47 : (.selects RX12 yX12_put yX12_put : Cond) ∈ gT := gT_mem (List.mem_append_left _ (List.mem_of_getElem? (l := k2_sels lw_privs) (i := 47) rfl)) rfl
theorem q_7_70 : (.code yX12_all cX12_all 1 (some .int) : Cond) ∈ gT := gT_mem (List.mem_append_right _ (List.mem_append_right _ (List.mem_append_right _ (List.mem_append_right _ (List.mem_append_right _ (List.mem_append_right _ (List.mem_append_right _ (List.mem_of_getElem? (l := tables_1_7) (i := 70) rfl)))))))) rfl
theorem q_7_68 : (.methodLink RX12 161 yX12_all : Cond) ∈ gT := gT_mem (List.mem_append_right _ (List.mem_append_right _ (List.mem_append_right _ (List.mem_append_right _ (List.mem_append_right _ (List.mem_append_right _ (List.mem_append_right _ (List.mem_of_getElem? (l := tables_1_7) (i := 68) rfl)))))))) rfl
theorem q_7_69 : (.static yX12_all : Cond) ∈ gT := gT_mem (List.mem_append_right _ (List.mem_append_right _ (List.mem_append_right _ (List.mem_append_right _ (List.mem_append_right _ (List.mem_append_right _ (List.mem_append_right _ (List.mem_of_getElem? (l := tables_1_7) (i := 69) rfl)))))))) rfl
theorem q_7_66 : (.constantLong RX12 153 (16877 : Int64) : Cond) ∈ gT := gT_mem (List.mem_append_right _ (List.mem_append_right _ (List.mem_append_right _ (List.mem_append_right _ (List.mem_append_right _ (List.mem_append_right _ (List.mem_append_right _ (List.mem_of_getElem? (l := tables_1_7) (i := 66) rfl)))))))) rfl
theorem q_7_52 : (.code yX12_freeInodes cX12_freeInodes 3 (some .int) : Cond) ∈ gT := gT_mem (List.mem_append_right _ (List.mem_append_right _ (List.mem_append_right _ (List.mem_append_right _ (List.mem_append_right _ (List.mem_append_right _ (List.mem_append_right _ (List.mem_of_getElem? (l := tables_1_7) (i := 52) rfl)))))))) rfl
theorem q_7_49 : (.methodLink RX12 167 yX12_freeInodes : Cond) ∈ gT := gT_mem (List.mem_append_right _ (List.mem_append_right _ (List.mem_append_right _ (List.mem_append_right _ (List.mem_append_right _ (List.mem_append_right _ (List.mem_append_right _ (List.mem_of_getElem? (l := tables_1_7) (i := 49) rfl)))))))) rfl
theorem q_7_51 : (.instanceMethod yX12_freeInodes : Cond) ∈ gT := gT_mem (List.mem_append_right _ (List.mem_append_right _ (List.mem_append_right _ (List.mem_append_right _ (List.mem_append_right _ (List.mem_append_right _ (List.mem_append_right _ (List.mem_of_getElem? (l := tables_1_7) (i := 51) rfl)))))))) rfl
theorem qp_48 : (.selects RX12 yX12_freeInodes yX12_freeInodes : Cond) ∈ gT := gT_mem (List.mem_append_left _ (List.mem_of_getElem? (l := k2_sels lw_privs) (i := 48) rfl)) rfl
theorem q_7_53 : (.constantLong RX12 170 (65535 : Int64) : Cond) ∈ gT := gT_mem (List.mem_append_right _ (List.mem_append_right _ (List.mem_append_right _ (List.mem_append_right _ (List.mem_append_right _ (List.mem_append_right _ (List.mem_append_right _ (List.mem_of_getElem? (l := tables_1_7) (i := 53) rfl)))))))) rfl
theorem q_7_54 : (.constantLong RX12 172 (61267 : Int64) : Cond) ∈ gT := gT_mem (List.mem_append_right _ (List.mem_append_right _ (List.mem_append_right _ (List.mem_append_right _ (List.mem_append_right _ (List.mem_append_right _ (List.mem_append_right _ (List.mem_of_getElem? (l := tables_1_7) (i := 54) rfl)))))))) rfl
theorem q_7_55 : (.constantLong RX12 174 (11 : Int64) : Cond) ∈ gT := gT_mem (List.mem_append_right _ (List.mem_append_right _ (List.mem_append_right _ (List.mem_append_right _ (List.mem_append_right _ (List.mem_append_right _ (List.mem_append_right _ (List.mem_of_getElem? (l := tables_1_7) (i := 55) rfl)))))))) rfl
theorem q_7_56 : (.constantLong RX12 176 (128 : Int64) : Cond) ∈ gT := gT_mem (List.mem_append_right _ (List.mem_append_right _ (List.mem_append_right _ (List.mem_append_right _ (List.mem_append_right _ (List.mem_append_right _ (List.mem_append_right _ (List.mem_of_getElem? (l := tables_1_7) (i := 56) rfl)))))))) rfl
theorem q_7_57 : (.constantLong RX12 178 (2 : Int64) : Cond) ∈ gT := gT_mem (List.mem_append_right _ (List.mem_append_right _ (List.mem_append_right _ (List.mem_append_right _ (List.mem_append_right _ (List.mem_append_right _ (List.mem_append_right _ (List.mem_of_getElem? (l := tables_1_7) (i := 57) rfl)))))))) rfl
theorem q_7_44 : (.code yX12_room cX12_room 2 (some .int) : Cond) ∈ gT := gT_mem (List.mem_append_right _ (List.mem_append_right _ (List.mem_append_right _ (List.mem_append_right _ (List.mem_append_right _ (List.mem_append_right _ (List.mem_append_right _ (List.mem_of_getElem? (l := tables_1_7) (i := 44) rfl)))))))) rfl
theorem q_7_41 : (.methodLink RX12 164 yX12_room : Cond) ∈ gT := gT_mem (List.mem_append_right _ (List.mem_append_right _ (List.mem_append_right _ (List.mem_append_right _ (List.mem_append_right _ (List.mem_append_right _ (List.mem_append_right _ (List.mem_of_getElem? (l := tables_1_7) (i := 41) rfl)))))))) rfl
theorem q_7_43 : (.instanceMethod yX12_room : Cond) ∈ gT := gT_mem (List.mem_append_right _ (List.mem_append_right _ (List.mem_append_right _ (List.mem_append_right _ (List.mem_append_right _ (List.mem_append_right _ (List.mem_append_right _ (List.mem_of_getElem? (l := tables_1_7) (i := 43) rfl)))))))) rfl
theorem qp_46 : (.selects RX12 yX12_room yX12_room : Cond) ∈ gT := gT_mem (List.mem_append_left _ (List.mem_of_getElem? (l := k2_sels lw_privs) (i := 46) rfl)) rfl
theorem q_7_61 : (.code yX12_showInode cX12_showInode 7 none : Cond) ∈ gT := gT_mem (List.mem_append_right _ (List.mem_append_right _ (List.mem_append_right _ (List.mem_append_right _ (List.mem_append_right _ (List.mem_append_right _ (List.mem_append_right _ (List.mem_of_getElem? (l := tables_1_7) (i := 61) rfl)))))))) rfl
theorem q_7_58 : (.methodLink RX12 183 yX12_showInode : Cond) ∈ gT := gT_mem (List.mem_append_right _ (List.mem_append_right _ (List.mem_append_right _ (List.mem_append_right _ (List.mem_append_right _ (List.mem_append_right _ (List.mem_append_right _ (List.mem_of_getElem? (l := tables_1_7) (i := 58) rfl)))))))) rfl
theorem q_7_60 : (.instanceMethod yX12_showInode : Cond) ∈ gT := gT_mem (List.mem_append_right _ (List.mem_append_right _ (List.mem_append_right _ (List.mem_append_right _ (List.mem_append_right _ (List.mem_append_right _ (List.mem_append_right _ (List.mem_of_getElem? (l := tables_1_7) (i := 60) rfl)))))))) rfl
theorem qp_49 : (.selects RX12 yX12_showInode yX12_showInode : Cond) ∈ gT := gT_mem (List.mem_append_left _ (List.mem_of_getElem? (l := k2_sels lw_privs) (i := 49) rfl)) rfl
theorem q_7_36 : (.code yX12_showGroup cX12_showGroup 9 none : Cond) ∈ gT := gT_mem (List.mem_append_right _ (List.mem_append_right _ (List.mem_append_right _ (List.mem_append_right _ (List.mem_append_right _ (List.mem_append_right _ (List.mem_append_right _ (List.mem_of_getElem? (l := tables_1_7) (i := 36) rfl)))))))) rfl
theorem q_7_33 : (.methodLink RX12 180 yX12_showGroup : Cond) ∈ gT := gT_mem (List.mem_append_right _ (List.mem_append_right _ (List.mem_append_right _ (List.mem_append_right _ (List.mem_append_right _ (List.mem_append_right _ (List.mem_append_right _ (List.mem_of_getElem? (l := tables_1_7) (i := 33) rfl)))))))) rfl
theorem q_7_35 : (.instanceMethod yX12_showGroup : Cond) ∈ gT := gT_mem (List.mem_append_right _ (List.mem_append_right _ (List.mem_append_right _ (List.mem_append_right _ (List.mem_append_right _ (List.mem_append_right _ (List.mem_append_right _ (List.mem_of_getElem? (l := tables_1_7) (i := 35) rfl)))))))) rfl
theorem qp_44 : (.selects RX12 yX12_showGroup yX12_showGroup : Cond) ∈ gT := gT_mem (List.mem_append_left _ (List.mem_of_getElem? (l := k2_sels lw_privs) (i := 44) rfl)) rfl
theorem q_7_32 : (.code yX12_show cX12_show 2 none : Cond) ∈ gT := gT_mem (List.mem_append_right _ (List.mem_append_right _ (List.mem_append_right _ (List.mem_append_right _ (List.mem_append_right _ (List.mem_append_right _ (List.mem_append_right _ (List.mem_of_getElem? (l := tables_1_7) (i := 32) rfl)))))))) rfl
theorem q_7_29 : (.methodLink RX12 186 yX12_show : Cond) ∈ gT := gT_mem (List.mem_append_right _ (List.mem_append_right _ (List.mem_append_right _ (List.mem_append_right _ (List.mem_append_right _ (List.mem_append_right _ (List.mem_append_right _ (List.mem_of_getElem? (l := tables_1_7) (i := 29) rfl)))))))) rfl
theorem q_7_31 : (.instanceMethod yX12_show : Cond) ∈ gT := gT_mem (List.mem_append_right _ (List.mem_append_right _ (List.mem_append_right _ (List.mem_append_right _ (List.mem_append_right _ (List.mem_append_right _ (List.mem_append_right _ (List.mem_of_getElem? (l := tables_1_7) (i := 31) rfl)))))))) rfl
theorem qp_43 : (.selects RX12 yX12_show yX12_show : Cond) ∈ gT := gT_mem (List.mem_append_left _ (List.mem_of_getElem? (l := k2_sels lw_privs) (i := 43) rfl)) rfl
theorem q_7_102 : (.code yX12_four cX12_four 2 (some .int) : Cond) ∈ gT := gT_mem (List.mem_append_right _ (List.mem_append_right _ (List.mem_append_right _ (List.mem_append_right _ (List.mem_append_right _ (List.mem_append_right _ (List.mem_append_right _ (List.mem_of_getElem? (l := tables_1_7) (i := 102) rfl)))))))) rfl
theorem q_7_99 : (.methodLink RX12 189 yX12_four : Cond) ∈ gT := gT_mem (List.mem_append_right _ (List.mem_append_right _ (List.mem_append_right _ (List.mem_append_right _ (List.mem_append_right _ (List.mem_append_right _ (List.mem_append_right _ (List.mem_of_getElem? (l := tables_1_7) (i := 99) rfl)))))))) rfl
theorem q_7_101 : (.instanceMethod yX12_four : Cond) ∈ gT := gT_mem (List.mem_append_right _ (List.mem_append_right _ (List.mem_append_right _ (List.mem_append_right _ (List.mem_append_right _ (List.mem_append_right _ (List.mem_append_right _ (List.mem_of_getElem? (l := tables_1_7) (i := 101) rfl)))))))) rfl
theorem qp_55 : (.selects RX12 yX12_four yX12_four : Cond) ∈ gT := gT_mem (List.mem_append_left _ (List.mem_of_getElem? (l := k2_sels lw_privs) (i := 55) rfl)) rfl
theorem q_6_144 : (.fieldLink RX12 192 "InodeDeskModel" "seen" "I" : Cond) ∈ gT := gT_mem (List.mem_append_right _ (List.mem_append_right _ (List.mem_append_right _ (List.mem_append_right _ (List.mem_append_right _ (List.mem_append_right _ (List.mem_append_left _ (List.mem_of_getElem? (l := tables_1_6) (i := 144) rfl)))))))) rfl
theorem q_6_141 : (.fieldLink RX12 195 "InodeDeskModel" "before" "I" : Cond) ∈ gT := gT_mem (List.mem_append_right _ (List.mem_append_right _ (List.mem_append_right _ (List.mem_append_right _ (List.mem_append_right _ (List.mem_append_right _ (List.mem_append_left _ (List.mem_of_getElem? (l := tables_1_6) (i := 141) rfl)))))))) rfl
theorem q_6_140 : (.fieldLink RX12 198 "InodeDeskModel" "found" "I" : Cond) ∈ gT := gT_mem (List.mem_append_right _ (List.mem_append_right _ (List.mem_append_right _ (List.mem_append_right _ (List.mem_append_right _ (List.mem_append_right _ (List.mem_append_left _ (List.mem_of_getElem? (l := tables_1_6) (i := 140) rfl)))))))) rfl
theorem q_7_98 : (.code yX12_finds cX12_finds 7 (some .boolean) : Cond) ∈ gT := gT_mem (List.mem_append_right _ (List.mem_append_right _ (List.mem_append_right _ (List.mem_append_right _ (List.mem_append_right _ (List.mem_append_right _ (List.mem_append_right _ (List.mem_of_getElem? (l := tables_1_7) (i := 98) rfl)))))))) rfl
theorem q_7_95 : (.methodLink RX12 201 yX12_finds : Cond) ∈ gT := gT_mem (List.mem_append_right _ (List.mem_append_right _ (List.mem_append_right _ (List.mem_append_right _ (List.mem_append_right _ (List.mem_append_right _ (List.mem_append_right _ (List.mem_of_getElem? (l := tables_1_7) (i := 95) rfl)))))))) rfl
theorem q_7_97 : (.instanceMethod yX12_finds : Cond) ∈ gT := gT_mem (List.mem_append_right _ (List.mem_append_right _ (List.mem_append_right _ (List.mem_append_right _ (List.mem_append_right _ (List.mem_append_right _ (List.mem_append_right _ (List.mem_of_getElem? (l := tables_1_7) (i := 97) rfl)))))))) rfl
theorem qp_54 : (.selects RX12 yX12_finds yX12_finds : Cond) ∈ gT := gT_mem (List.mem_append_left _ (List.mem_of_getElem? (l := k2_sels lw_privs) (i := 54) rfl)) rfl
theorem q_7_90 : (.code yX12_fails cX12_fails 3 (some .boolean) : Cond) ∈ gT := gT_mem (List.mem_append_right _ (List.mem_append_right _ (List.mem_append_right _ (List.mem_append_right _ (List.mem_append_right _ (List.mem_append_right _ (List.mem_append_right _ (List.mem_of_getElem? (l := tables_1_7) (i := 90) rfl)))))))) rfl
theorem q_7_87 : (.methodLink RX12 205 yX12_fails : Cond) ∈ gT := gT_mem (List.mem_append_right _ (List.mem_append_right _ (List.mem_append_right _ (List.mem_append_right _ (List.mem_append_right _ (List.mem_append_right _ (List.mem_append_right _ (List.mem_of_getElem? (l := tables_1_7) (i := 87) rfl)))))))) rfl
theorem q_7_89 : (.instanceMethod yX12_fails : Cond) ∈ gT := gT_mem (List.mem_append_right _ (List.mem_append_right _ (List.mem_append_right _ (List.mem_append_right _ (List.mem_append_right _ (List.mem_append_right _ (List.mem_append_right _ (List.mem_of_getElem? (l := tables_1_7) (i := 89) rfl)))))))) rfl
theorem qp_52 : (.selects RX12 yX12_fails yX12_fails : Cond) ∈ gT := gT_mem (List.mem_append_left _ (List.mem_of_getElem? (l := k2_sels lw_privs) (i := 52) rfl)) rfl
theorem q_7_86 : (.code yX12_none cX12_none 1 (some .boolean) : Cond) ∈ gT := gT_mem (List.mem_append_right _ (List.mem_append_right _ (List.mem_append_right _ (List.mem_append_right _ (List.mem_append_right _ (List.mem_append_right _ (List.mem_append_right _ (List.mem_of_getElem? (l := tables_1_7) (i := 86) rfl)))))))) rfl
theorem q_7_83 : (.methodLink RX12 209 yX12_none : Cond) ∈ gT := gT_mem (List.mem_append_right _ (List.mem_append_right _ (List.mem_append_right _ (List.mem_append_right _ (List.mem_append_right _ (List.mem_append_right _ (List.mem_append_right _ (List.mem_of_getElem? (l := tables_1_7) (i := 83) rfl)))))))) rfl
theorem q_7_85 : (.instanceMethod yX12_none : Cond) ∈ gT := gT_mem (List.mem_append_right _ (List.mem_append_right _ (List.mem_append_right _ (List.mem_append_right _ (List.mem_append_right _ (List.mem_append_right _ (List.mem_append_right _ (List.mem_of_getElem? (l := tables_1_7) (i := 85) rfl)))))))) rfl
theorem qp_51 : (.selects RX12 yX12_none yX12_none : Cond) ∈ gT := gT_mem (List.mem_append_left _ (List.mem_of_getElem? (l := k2_sels lw_privs) (i := 51) rfl)) rfl
theorem q_7_94 : (.code yX12_count cX12_count 3 (some .int) : Cond) ∈ gT := gT_mem (List.mem_append_right _ (List.mem_append_right _ (List.mem_append_right _ (List.mem_append_right _ (List.mem_append_right _ (List.mem_append_right _ (List.mem_append_right _ (List.mem_of_getElem? (l := tables_1_7) (i := 94) rfl)))))))) rfl
theorem q_7_91 : (.methodLink RX12 213 yX12_count : Cond) ∈ gT := gT_mem (List.mem_append_right _ (List.mem_append_right _ (List.mem_append_right _ (List.mem_append_right _ (List.mem_append_right _ (List.mem_append_right _ (List.mem_append_right _ (List.mem_of_getElem? (l := tables_1_7) (i := 91) rfl)))))))) rfl
theorem q_7_93 : (.instanceMethod yX12_count : Cond) ∈ gT := gT_mem (List.mem_append_right _ (List.mem_append_right _ (List.mem_append_right _ (List.mem_append_right _ (List.mem_append_right _ (List.mem_append_right _ (List.mem_append_right _ (List.mem_of_getElem? (l := tables_1_7) (i := 93) rfl)))))))) rfl
theorem qp_53 : (.selects RX12 yX12_count yX12_count : Cond) ∈ gT := gT_mem (List.mem_append_left _ (List.mem_of_getElem? (l := k2_sels lw_privs) (i := 53) rfl)) rfl
theorem q_7_119 : (.code yX12_no cX12_no 2 (some .boolean) : Cond) ∈ gT := gT_mem (List.mem_append_right _ (List.mem_append_right _ (List.mem_append_right _ (List.mem_append_right _ (List.mem_append_right _ (List.mem_append_right _ (List.mem_append_right _ (List.mem_of_getElem? (l := tables_1_7) (i := 119) rfl)))))))) rfl
theorem q_7_116 : (.methodLink RX12 216 yX12_no : Cond) ∈ gT := gT_mem (List.mem_append_right _ (List.mem_append_right _ (List.mem_append_right _ (List.mem_append_right _ (List.mem_append_right _ (List.mem_append_right _ (List.mem_append_right _ (List.mem_of_getElem? (l := tables_1_7) (i := 116) rfl)))))))) rfl
theorem q_7_118 : (.instanceMethod yX12_no : Cond) ∈ gT := gT_mem (List.mem_append_right _ (List.mem_append_right _ (List.mem_append_right _ (List.mem_append_right _ (List.mem_append_right _ (List.mem_append_right _ (List.mem_append_right _ (List.mem_of_getElem? (l := tables_1_7) (i := 118) rfl)))))))) rfl
theorem qp_58 : (.selects RX12 yX12_no yX12_no : Cond) ∈ gT := gT_mem (List.mem_append_left _ (List.mem_of_getElem? (l := k2_sels lw_privs) (i := 58) rfl)) rfl
theorem q_7_131 : (.code yX12_blockOf cX12_blockOf 5 (some .int) : Cond) ∈ gT := gT_mem (List.mem_append_right _ (List.mem_append_right _ (List.mem_append_right _ (List.mem_append_right _ (List.mem_append_right _ (List.mem_append_right _ (List.mem_append_right _ (List.mem_of_getElem? (l := tables_1_7) (i := 131) rfl)))))))) rfl
theorem q_7_128 : (.methodLink RX12 219 yX12_blockOf : Cond) ∈ gT := gT_mem (List.mem_append_right _ (List.mem_append_right _ (List.mem_append_right _ (List.mem_append_right _ (List.mem_append_right _ (List.mem_append_right _ (List.mem_append_right _ (List.mem_of_getElem? (l := tables_1_7) (i := 128) rfl)))))))) rfl
theorem q_7_130 : (.instanceMethod yX12_blockOf : Cond) ∈ gT := gT_mem (List.mem_append_right _ (List.mem_append_right _ (List.mem_append_right _ (List.mem_append_right _ (List.mem_append_right _ (List.mem_append_right _ (List.mem_append_right _ (List.mem_of_getElem? (l := tables_1_7) (i := 130) rfl)))))))) rfl
theorem qp_59 : (.selects RX12 yX12_blockOf yX12_blockOf : Cond) ∈ gT := gT_mem (List.mem_append_left _ (List.mem_of_getElem? (l := k2_sels lw_privs) (i := 59) rfl)) rfl
theorem q_7_159 : (.code yX12_uses cX12_uses 2 (some .int) : Cond) ∈ gT := gT_mem (List.mem_append_right _ (List.mem_append_right _ (List.mem_append_right _ (List.mem_append_right _ (List.mem_append_right _ (List.mem_append_right _ (List.mem_append_right _ (List.mem_of_getElem? (l := tables_1_7) (i := 159) rfl)))))))) rfl
theorem q_7_156 : (.methodLink RX12 222 yX12_uses : Cond) ∈ gT := gT_mem (List.mem_append_right _ (List.mem_append_right _ (List.mem_append_right _ (List.mem_append_right _ (List.mem_append_right _ (List.mem_append_right _ (List.mem_append_right _ (List.mem_of_getElem? (l := tables_1_7) (i := 156) rfl)))))))) rfl
theorem q_7_158 : (.instanceMethod yX12_uses : Cond) ∈ gT := gT_mem (List.mem_append_right _ (List.mem_append_right _ (List.mem_append_right _ (List.mem_append_right _ (List.mem_append_right _ (List.mem_append_right _ (List.mem_append_right _ (List.mem_of_getElem? (l := tables_1_7) (i := 158) rfl)))))))) rfl
theorem qp_63 : (.selects RX12 yX12_uses yX12_uses : Cond) ∈ gT := gT_mem (List.mem_append_left _ (List.mem_of_getElem? (l := k2_sels lw_privs) (i := 63) rfl)) rfl
theorem q_7_147 : (.code yX12_named cX12_named 3 (some .boolean) : Cond) ∈ gT := gT_mem (List.mem_append_right _ (List.mem_append_right _ (List.mem_append_right _ (List.mem_append_right _ (List.mem_append_right _ (List.mem_append_right _ (List.mem_append_right _ (List.mem_of_getElem? (l := tables_1_7) (i := 147) rfl)))))))) rfl
theorem q_7_144 : (.methodLink RX12 225 yX12_named : Cond) ∈ gT := gT_mem (List.mem_append_right _ (List.mem_append_right _ (List.mem_append_right _ (List.mem_append_right _ (List.mem_append_right _ (List.mem_append_right _ (List.mem_append_right _ (List.mem_of_getElem? (l := tables_1_7) (i := 144) rfl)))))))) rfl
theorem q_7_146 : (.instanceMethod yX12_named : Cond) ∈ gT := gT_mem (List.mem_append_right _ (List.mem_append_right _ (List.mem_append_right _ (List.mem_append_right _ (List.mem_append_right _ (List.mem_append_right _ (List.mem_append_right _ (List.mem_of_getElem? (l := tables_1_7) (i := 146) rfl)))))))) rfl
theorem qp_60 : (.selects RX12 yX12_named yX12_named : Cond) ∈ gT := gT_mem (List.mem_append_left _ (List.mem_of_getElem? (l := k2_sels lw_privs) (i := 60) rfl)) rfl
theorem q_7_155 : (.code yX12_spot cX12_spot 5 (some .int) : Cond) ∈ gT := gT_mem (List.mem_append_right _ (List.mem_append_right _ (List.mem_append_right _ (List.mem_append_right _ (List.mem_append_right _ (List.mem_append_right _ (List.mem_append_right _ (List.mem_of_getElem? (l := tables_1_7) (i := 155) rfl)))))))) rfl
theorem q_7_152 : (.methodLink RX12 231 yX12_spot : Cond) ∈ gT := gT_mem (List.mem_append_right _ (List.mem_append_right _ (List.mem_append_right _ (List.mem_append_right _ (List.mem_append_right _ (List.mem_append_right _ (List.mem_append_right _ (List.mem_of_getElem? (l := tables_1_7) (i := 152) rfl)))))))) rfl
theorem q_7_154 : (.instanceMethod yX12_spot : Cond) ∈ gT := gT_mem (List.mem_append_right _ (List.mem_append_right _ (List.mem_append_right _ (List.mem_append_right _ (List.mem_append_right _ (List.mem_append_right _ (List.mem_append_right _ (List.mem_of_getElem? (l := tables_1_7) (i := 154) rfl)))))))) rfl
theorem qp_62 : (.selects RX12 yX12_spot yX12_spot : Cond) ∈ gT := gT_mem (List.mem_append_left _ (List.mem_of_getElem? (l := k2_sels lw_privs) (i := 62) rfl)) rfl
theorem q_7_151 : (.code yX12_isTaken cX12_isTaken 4 (some .boolean) : Cond) ∈ gT := gT_mem (List.mem_append_right _ (List.mem_append_right _ (List.mem_append_right _ (List.mem_append_right _ (List.mem_append_right _ (List.mem_append_right _ (List.mem_append_right _ (List.mem_of_getElem? (l := tables_1_7) (i := 151) rfl)))))))) rfl
theorem q_7_148 : (.methodLink RX12 228 yX12_isTaken : Cond) ∈ gT := gT_mem (List.mem_append_right _ (List.mem_append_right _ (List.mem_append_right _ (List.mem_append_right _ (List.mem_append_right _ (List.mem_append_right _ (List.mem_append_right _ (List.mem_of_getElem? (l := tables_1_7) (i := 148) rfl)))))))) rfl
theorem q_7_150 : (.instanceMethod yX12_isTaken : Cond) ∈ gT := gT_mem (List.mem_append_right _ (List.mem_append_right _ (List.mem_append_right _ (List.mem_append_right _ (List.mem_append_right _ (List.mem_append_right _ (List.mem_append_right _ (List.mem_of_getElem? (l := tables_1_7) (i := 150) rfl)))))))) rfl
theorem qp_61 : (.selects RX12 yX12_isTaken yX12_isTaken : Cond) ∈ gT := gT_mem (List.mem_append_left _ (List.mem_of_getElem? (l := k2_sels lw_privs) (i := 61) rfl)) rfl
theorem q_7_167 : (.code yX12_noFile cX12_noFile 3 (some .boolean) : Cond) ∈ gT := gT_mem (List.mem_append_right _ (List.mem_append_right _ (List.mem_append_right _ (List.mem_append_right _ (List.mem_append_right _ (List.mem_append_right _ (List.mem_append_right _ (List.mem_of_getElem? (l := tables_1_7) (i := 167) rfl)))))))) rfl
theorem q_7_164 : (.methodLink RX12 234 yX12_noFile : Cond) ∈ gT := gT_mem (List.mem_append_right _ (List.mem_append_right _ (List.mem_append_right _ (List.mem_append_right _ (List.mem_append_right _ (List.mem_append_right _ (List.mem_append_right _ (List.mem_of_getElem? (l := tables_1_7) (i := 164) rfl)))))))) rfl
theorem q_7_166 : (.instanceMethod yX12_noFile : Cond) ∈ gT := gT_mem (List.mem_append_right _ (List.mem_append_right _ (List.mem_append_right _ (List.mem_append_right _ (List.mem_append_right _ (List.mem_append_right _ (List.mem_append_right _ (List.mem_of_getElem? (l := tables_1_7) (i := 166) rfl)))))))) rfl
theorem qp_64 : (.selects RX12 yX12_noFile yX12_noFile : Cond) ∈ gT := gT_mem (List.mem_append_left _ (List.mem_of_getElem? (l := k2_sels lw_privs) (i := 64) rfl)) rfl
theorem q_7_171 : (.code yX12_append cX12_append 10 (some .int) : Cond) ∈ gT := gT_mem (List.mem_append_right _ (List.mem_append_right _ (List.mem_append_right _ (List.mem_append_right _ (List.mem_append_right _ (List.mem_append_right _ (List.mem_append_right _ (List.mem_of_getElem? (l := tables_1_7) (i := 171) rfl)))))))) rfl
theorem q_7_168 : (.methodLink RX12 238 yX12_append : Cond) ∈ gT := gT_mem (List.mem_append_right _ (List.mem_append_right _ (List.mem_append_right _ (List.mem_append_right _ (List.mem_append_right _ (List.mem_append_right _ (List.mem_append_right _ (List.mem_of_getElem? (l := tables_1_7) (i := 168) rfl)))))))) rfl
theorem q_7_170 : (.instanceMethod yX12_append : Cond) ∈ gT := gT_mem (List.mem_append_right _ (List.mem_append_right _ (List.mem_append_right _ (List.mem_append_right _ (List.mem_append_right _ (List.mem_append_right _ (List.mem_append_right _ (List.mem_of_getElem? (l := tables_1_7) (i := 170) rfl)))))))) rfl
theorem qp_65 : (.selects RX12 yX12_append yX12_append : Cond) ∈ gT := gT_mem (List.mem_append_left _ (List.mem_of_getElem? (l := k2_sels lw_privs) (i := 65) rfl)) rfl
theorem q_7_176 : (.constant RX12 242 (400000 : Int32) : Cond) ∈ gT := gT_mem (List.mem_append_right _ (List.mem_append_right _ (List.mem_append_right _ (List.mem_append_right _ (List.mem_append_right _ (List.mem_append_right _ (List.mem_append_right _ (List.mem_of_getElem? (l := tables_1_7) (i := 176) rfl)))))))) rfl
theorem q_7_184 : (.code yX12_keep cX12_keep 8 none : Cond) ∈ gT := gT_mem (List.mem_append_right _ (List.mem_append_right _ (List.mem_append_right _ (List.mem_append_right _ (List.mem_append_right _ (List.mem_append_right _ (List.mem_append_right _ (List.mem_of_getElem? (l := tables_1_7) (i := 184) rfl)))))))) rfl
theorem q_7_181 : (.methodLink RX12 243 yX12_keep : Cond) ∈ gT := gT_mem (List.mem_append_right _ (List.mem_append_right _ (List.mem_append_right _ (List.mem_append_right _ (List.mem_append_right _ (List.mem_append_right _ (List.mem_append_right _ (List.mem_of_getElem? (l := tables_1_7) (i := 181) rfl)))))))) rfl
theorem q_7_183 : (.instanceMethod yX12_keep : Cond) ∈ gT := gT_mem (List.mem_append_right _ (List.mem_append_right _ (List.mem_append_right _ (List.mem_append_right _ (List.mem_append_right _ (List.mem_append_right _ (List.mem_append_right _ (List.mem_of_getElem? (l := tables_1_7) (i := 183) rfl)))))))) rfl
theorem qp_66 : (.selects RX12 yX12_keep yX12_keep : Cond) ∈ gT := gT_mem (List.mem_append_left _ (List.mem_of_getElem? (l := k2_sels lw_privs) (i := 66) rfl)) rfl
theorem q_7_193 : (.constantLong RX12 247 (4294967295 : Int64) : Cond) ∈ gT := gT_mem (List.mem_append_right _ (List.mem_append_right _ (List.mem_append_right _ (List.mem_append_right _ (List.mem_append_right _ (List.mem_append_right _ (List.mem_append_right _ (List.mem_of_getElem? (l := tables_1_7) (i := 193) rfl)))))))) rfl
theorem q_1_234 : (.laysFinal "InodeDesk" "InodeDesk" "disk" "LInodeDesk$Disk;" : Cond) ∈ gT := gT_mem (List.mem_append_right _ (List.mem_append_left _ (List.mem_of_getElem? (l := tables_1_1) (i := 234) rfl))) rfl
theorem q_1_236 : (.laysFinal "InodeDesk" "InodeDesk" "layout" "LInodeDesk$Layout;" : Cond) ∈ gT := gT_mem (List.mem_append_right _ (List.mem_append_left _ (List.mem_of_getElem? (l := tables_1_1) (i := 236) rfl))) rfl
theorem q_1_238 : (.laysFinal "InodeDesk" "InodeDesk" "blockPool" "LInodeDesk$Pool;" : Cond) ∈ gT := gT_mem (List.mem_append_right _ (List.mem_append_left _ (List.mem_of_getElem? (l := tables_1_1) (i := 238) rfl))) rfl
theorem q_2_0 : (.laysFinal "InodeDesk" "InodeDesk" "inodePool" "LInodeDesk$Pool;" : Cond) ∈ gT := gT_mem (List.mem_append_right _ (List.mem_append_right _ (List.mem_append_left _ (List.mem_of_getElem? (l := tables_1_2) (i := 0) rfl)))) rfl
theorem q_2_2 : (.laysFinal "InodeDesk" "InodeDesk" "inodes" "LInodeDesk$Inodes;" : Cond) ∈ gT := gT_mem (List.mem_append_right _ (List.mem_append_right _ (List.mem_append_left _ (List.mem_of_getElem? (l := tables_1_2) (i := 2) rfl)))) rfl
theorem q_2_4 : (.laysFinal "InodeDesk" "InodeDesk" "listing" "LInodeDesk$Listing;" : Cond) ∈ gT := gT_mem (List.mem_append_right _ (List.mem_append_right _ (List.mem_append_left _ (List.mem_of_getElem? (l := tables_1_2) (i := 4) rfl)))) rfl
theorem q_2_6 : (.laysFinal "InodeDesk" "InodeDesk" "heads" "LInodeDesk$Heads;" : Cond) ∈ gT := gT_mem (List.mem_append_right _ (List.mem_append_right _ (List.mem_append_left _ (List.mem_of_getElem? (l := tables_1_2) (i := 6) rfl)))) rfl
theorem q_2_8 : (.laysFinal "InodeDesk" "InodeDesk" "checker" "LInodeDesk$Checker;" : Cond) ∈ gT := gT_mem (List.mem_append_right _ (List.mem_append_right _ (List.mem_append_left _ (List.mem_of_getElem? (l := tables_1_2) (i := 8) rfl)))) rfl
theorem q_2_10 : (.laysFinal "InodeDesk" "InodeDesk" "tape" "LInodeDesk$Tape;" : Cond) ∈ gT := gT_mem (List.mem_append_right _ (List.mem_append_right _ (List.mem_append_left _ (List.mem_of_getElem? (l := tables_1_2) (i := 10) rfl)))) rfl
theorem q_2_12 : (.lays "InodeDesk" "InodeDesk" "made" "Z" : Cond) ∈ gT := gT_mem (List.mem_append_right _ (List.mem_append_right _ (List.mem_append_left _ (List.mem_of_getElem? (l := tables_1_2) (i := 12) rfl)))) rfl
theorem q_2_14 : (.lays "InodeDesk" "InodeDesk" "here" "I" : Cond) ∈ gT := gT_mem (List.mem_append_right _ (List.mem_append_right _ (List.mem_append_left _ (List.mem_of_getElem? (l := tables_1_2) (i := 14) rfl)))) rfl
theorem q_1_54 : (.laysFinal "InodeDesk$Disk" "InodeDesk$Disk" "bytes" "[B" : Cond) ∈ gT := gT_mem (List.mem_append_right _ (List.mem_append_left _ (List.mem_of_getElem? (l := tables_1_1) (i := 54) rfl))) rfl
theorem q_1_68 : (.laysFinal "InodeDesk$Layout" "InodeDesk$Layout" "blocks" "I" : Cond) ∈ gT := gT_mem (List.mem_append_right _ (List.mem_append_left _ (List.mem_of_getElem? (l := tables_1_1) (i := 68) rfl))) rfl
theorem q_1_70 : (.lays "InodeDesk$Layout" "InodeDesk$Layout" "groupBlocks" "I" : Cond) ∈ gT := gT_mem (List.mem_append_right _ (List.mem_append_left _ (List.mem_of_getElem? (l := tables_1_1) (i := 70) rfl))) rfl
theorem q_1_72 : (.lays "InodeDesk$Layout" "InodeDesk$Layout" "groups" "I" : Cond) ∈ gT := gT_mem (List.mem_append_right _ (List.mem_append_left _ (List.mem_of_getElem? (l := tables_1_1) (i := 72) rfl))) rfl
theorem q_1_74 : (.lays "InodeDesk$Layout" "InodeDesk$Layout" "groupInodes" "I" : Cond) ∈ gT := gT_mem (List.mem_append_right _ (List.mem_append_left _ (List.mem_of_getElem? (l := tables_1_1) (i := 74) rfl))) rfl
theorem q_1_89 : (.laysFinal "InodeDesk$Pool" "InodeDesk$Pool" "disk" "LInodeDesk$Disk;" : Cond) ∈ gT := gT_mem (List.mem_append_right _ (List.mem_append_left _ (List.mem_of_getElem? (l := tables_1_1) (i := 89) rfl))) rfl
theorem q_1_91 : (.laysFinal "InodeDesk$Pool" "InodeDesk$Pool" "layout" "LInodeDesk$Layout;" : Cond) ∈ gT := gT_mem (List.mem_append_right _ (List.mem_append_left _ (List.mem_of_getElem? (l := tables_1_1) (i := 91) rfl))) rfl
theorem q_1_93 : (.laysFinal "InodeDesk$Pool" "InodeDesk$Pool" "map" "I" : Cond) ∈ gT := gT_mem (List.mem_append_right _ (List.mem_append_left _ (List.mem_of_getElem? (l := tables_1_1) (i := 93) rfl))) rfl
theorem q_1_95 : (.laysFinal "InodeDesk$Pool" "InodeDesk$Pool" "superCount" "I" : Cond) ∈ gT := gT_mem (List.mem_append_right _ (List.mem_append_left _ (List.mem_of_getElem? (l := tables_1_1) (i := 95) rfl))) rfl
theorem q_1_97 : (.laysFinal "InodeDesk$Pool" "InodeDesk$Pool" "groupCount" "I" : Cond) ∈ gT := gT_mem (List.mem_append_right _ (List.mem_append_left _ (List.mem_of_getElem? (l := tables_1_1) (i := 97) rfl))) rfl
theorem q_1_99 : (.lays "InodeDesk$Pool" "InodeDesk$Pool" "each" "I" : Cond) ∈ gT := gT_mem (List.mem_append_right _ (List.mem_append_left _ (List.mem_of_getElem? (l := tables_1_1) (i := 99) rfl))) rfl
theorem q_1_111 : (.laysFinal "InodeDesk$Inodes" "InodeDesk$Inodes" "disk" "LInodeDesk$Disk;" : Cond) ∈ gT := gT_mem (List.mem_append_right _ (List.mem_append_left _ (List.mem_of_getElem? (l := tables_1_1) (i := 111) rfl))) rfl
theorem q_1_113 : (.laysFinal "InodeDesk$Inodes" "InodeDesk$Inodes" "layout" "LInodeDesk$Layout;" : Cond) ∈ gT := gT_mem (List.mem_append_right _ (List.mem_append_left _ (List.mem_of_getElem? (l := tables_1_1) (i := 113) rfl))) rfl
theorem q_1_115 : (.laysFinal "InodeDesk$Inodes" "InodeDesk$Inodes" "blockPool" "LInodeDesk$Pool;" : Cond) ∈ gT := gT_mem (List.mem_append_right _ (List.mem_append_left _ (List.mem_of_getElem? (l := tables_1_1) (i := 115) rfl))) rfl
theorem q_1_128 : (.laysFinal "InodeDesk$Listing" "InodeDesk$Listing" "disk" "LInodeDesk$Disk;" : Cond) ∈ gT := gT_mem (List.mem_append_right _ (List.mem_append_left _ (List.mem_of_getElem? (l := tables_1_1) (i := 128) rfl))) rfl
theorem q_1_130 : (.laysFinal "InodeDesk$Listing" "InodeDesk$Listing" "inodes" "LInodeDesk$Inodes;" : Cond) ∈ gT := gT_mem (List.mem_append_right _ (List.mem_append_left _ (List.mem_of_getElem? (l := tables_1_1) (i := 130) rfl))) rfl
theorem q_1_132 : (.laysFinal "InodeDesk$Listing" "InodeDesk$Listing" "entries" "[I" : Cond) ∈ gT := gT_mem (List.mem_append_right _ (List.mem_append_left _ (List.mem_of_getElem? (l := tables_1_1) (i := 132) rfl))) rfl
theorem q_1_134 : (.lays "InodeDesk$Listing" "InodeDesk$Listing" "count" "I" : Cond) ∈ gT := gT_mem (List.mem_append_right _ (List.mem_append_left _ (List.mem_of_getElem? (l := tables_1_1) (i := 134) rfl))) rfl
theorem q_1_148 : (.laysFinal "InodeDesk$Heads" "InodeDesk$Heads" "layout" "LInodeDesk$Layout;" : Cond) ∈ gT := gT_mem (List.mem_append_right _ (List.mem_append_left _ (List.mem_of_getElem? (l := tables_1_1) (i := 148) rfl))) rfl
theorem q_1_150 : (.laysFinal "InodeDesk$Heads" "InodeDesk$Heads" "blockPool" "LInodeDesk$Pool;" : Cond) ∈ gT := gT_mem (List.mem_append_right _ (List.mem_append_left _ (List.mem_of_getElem? (l := tables_1_1) (i := 150) rfl))) rfl
theorem q_1_152 : (.laysFinal "InodeDesk$Heads" "InodeDesk$Heads" "inodePool" "LInodeDesk$Pool;" : Cond) ∈ gT := gT_mem (List.mem_append_right _ (List.mem_append_left _ (List.mem_of_getElem? (l := tables_1_1) (i := 152) rfl))) rfl
theorem q_1_154 : (.laysFinal "InodeDesk$Heads" "InodeDesk$Heads" "inodes" "LInodeDesk$Inodes;" : Cond) ∈ gT := gT_mem (List.mem_append_right _ (List.mem_append_left _ (List.mem_of_getElem? (l := tables_1_1) (i := 154) rfl))) rfl
theorem q_1_181 : (.laysFinal "InodeDesk$Checker" "InodeDesk$Checker" "disk" "LInodeDesk$Disk;" : Cond) ∈ gT := gT_mem (List.mem_append_right _ (List.mem_append_left _ (List.mem_of_getElem? (l := tables_1_1) (i := 181) rfl))) rfl
theorem q_1_183 : (.laysFinal "InodeDesk$Checker" "InodeDesk$Checker" "layout" "LInodeDesk$Layout;" : Cond) ∈ gT := gT_mem (List.mem_append_right _ (List.mem_append_left _ (List.mem_of_getElem? (l := tables_1_1) (i := 183) rfl))) rfl
theorem q_1_185 : (.laysFinal "InodeDesk$Checker" "InodeDesk$Checker" "blockPool" "LInodeDesk$Pool;" : Cond) ∈ gT := gT_mem (List.mem_append_right _ (List.mem_append_left _ (List.mem_of_getElem? (l := tables_1_1) (i := 185) rfl))) rfl
theorem q_1_187 : (.laysFinal "InodeDesk$Checker" "InodeDesk$Checker" "inodePool" "LInodeDesk$Pool;" : Cond) ∈ gT := gT_mem (List.mem_append_right _ (List.mem_append_left _ (List.mem_of_getElem? (l := tables_1_1) (i := 187) rfl))) rfl
theorem q_1_189 : (.laysFinal "InodeDesk$Checker" "InodeDesk$Checker" "inodes" "LInodeDesk$Inodes;" : Cond) ∈ gT := gT_mem (List.mem_append_right _ (List.mem_append_left _ (List.mem_of_getElem? (l := tables_1_1) (i := 189) rfl))) rfl
theorem q_1_191 : (.laysFinal "InodeDesk$Checker" "InodeDesk$Checker" "listing" "LInodeDesk$Listing;" : Cond) ∈ gT := gT_mem (List.mem_append_right _ (List.mem_append_left _ (List.mem_of_getElem? (l := tables_1_1) (i := 191) rfl))) rfl
theorem q_1_193 : (.laysFinal "InodeDesk$Checker" "InodeDesk$Checker" "heads" "LInodeDesk$Heads;" : Cond) ∈ gT := gT_mem (List.mem_append_right _ (List.mem_append_left _ (List.mem_of_getElem? (l := tables_1_1) (i := 193) rfl))) rfl
theorem q_1_195 : (.laysFinal "InodeDesk$Checker" "InodeDesk$Checker" "draft" "LInodeDesk$Disk;" : Cond) ∈ gT := gT_mem (List.mem_append_right _ (List.mem_append_left _ (List.mem_of_getElem? (l := tables_1_1) (i := 195) rfl))) rfl
theorem q_1_197 : (.laysFinal "InodeDesk$Checker" "InodeDesk$Checker" "claimed" "[B" : Cond) ∈ gT := gT_mem (List.mem_append_right _ (List.mem_append_left _ (List.mem_of_getElem? (l := tables_1_1) (i := 197) rfl))) rfl
theorem q_1_199 : (.laysFinal "InodeDesk$Checker" "InodeDesk$Checker" "holders" "[I" : Cond) ∈ gT := gT_mem (List.mem_append_right _ (List.mem_append_left _ (List.mem_of_getElem? (l := tables_1_1) (i := 199) rfl))) rfl
theorem q_1_201 : (.laysFinal "InodeDesk$Checker" "InodeDesk$Checker" "parents" "[I" : Cond) ∈ gT := gT_mem (List.mem_append_right _ (List.mem_append_left _ (List.mem_of_getElem? (l := tables_1_1) (i := 201) rfl))) rfl
theorem q_1_216 : (.laysFinal "InodeDesk$Tape" "InodeDesk$Tape" "bytes" "[B" : Cond) ∈ gT := gT_mem (List.mem_append_right _ (List.mem_append_left _ (List.mem_of_getElem? (l := tables_1_1) (i := 216) rfl))) rfl
theorem q_1_218 : (.laysFinal "InodeDesk$Tape" "InodeDesk$Tape" "ready" "[B" : Cond) ∈ gT := gT_mem (List.mem_append_right _ (List.mem_append_left _ (List.mem_of_getElem? (l := tables_1_1) (i := 218) rfl))) rfl
theorem q_1_220 : (.lays "InodeDesk$Tape" "InodeDesk$Tape" "length" "I" : Cond) ∈ gT := gT_mem (List.mem_append_right _ (List.mem_append_left _ (List.mem_of_getElem? (l := tables_1_1) (i := 220) rfl))) rfl
theorem q_6_47 : (.laysFinal "InodeDesk$Pattern" "InodeDesk$Pattern" "seed" "I" : Cond) ∈ gT := gT_mem (List.mem_append_right _ (List.mem_append_right _ (List.mem_append_right _ (List.mem_append_right _ (List.mem_append_right _ (List.mem_append_right _ (List.mem_append_left _ (List.mem_of_getElem? (l := tables_1_6) (i := 47) rfl)))))))) rfl
theorem q_6_145 : (.lays "InodeDeskModel" "InodeDeskModel" "thrown" "I" : Cond) ∈ gT := gT_mem (List.mem_append_right _ (List.mem_append_right _ (List.mem_append_right _ (List.mem_append_right _ (List.mem_append_right _ (List.mem_append_right _ (List.mem_append_left _ (List.mem_of_getElem? (l := tables_1_6) (i := 145) rfl)))))))) rfl
theorem q_6_147 : (.laysFinal "InodeDeskModel" "InodeDeskModel" "blocks" "I" : Cond) ∈ gT := gT_mem (List.mem_append_right _ (List.mem_append_right _ (List.mem_append_right _ (List.mem_append_right _ (List.mem_append_right _ (List.mem_append_right _ (List.mem_append_left _ (List.mem_of_getElem? (l := tables_1_6) (i := 147) rfl)))))))) rfl
theorem q_6_149 : (.laysFinal "InodeDeskModel" "InodeDeskModel" "data" "[B" : Cond) ∈ gT := gT_mem (List.mem_append_right _ (List.mem_append_right _ (List.mem_append_right _ (List.mem_append_right _ (List.mem_append_right _ (List.mem_append_right _ (List.mem_append_left _ (List.mem_of_getElem? (l := tables_1_6) (i := 149) rfl)))))))) rfl
theorem q_6_151 : (.laysFinal "InodeDeskModel" "InodeDeskModel" "image" "[B" : Cond) ∈ gT := gT_mem (List.mem_append_right _ (List.mem_append_right _ (List.mem_append_right _ (List.mem_append_right _ (List.mem_append_right _ (List.mem_append_right _ (List.mem_append_left _ (List.mem_of_getElem? (l := tables_1_6) (i := 151) rfl)))))))) rfl
theorem q_6_153 : (.laysFinal "InodeDeskModel" "InodeDeskModel" "tape" "[B" : Cond) ∈ gT := gT_mem (List.mem_append_right _ (List.mem_append_right _ (List.mem_append_right _ (List.mem_append_right _ (List.mem_append_right _ (List.mem_append_right _ (List.mem_append_left _ (List.mem_of_getElem? (l := tables_1_6) (i := 153) rfl)))))))) rfl
theorem q_6_155 : (.laysFinal "InodeDeskModel" "InodeDeskModel" "ready" "[B" : Cond) ∈ gT := gT_mem (List.mem_append_right _ (List.mem_append_right _ (List.mem_append_right _ (List.mem_append_right _ (List.mem_append_right _ (List.mem_append_right _ (List.mem_append_left _ (List.mem_of_getElem? (l := tables_1_6) (i := 155) rfl)))))))) rfl
theorem q_6_157 : (.lays "InodeDeskModel" "InodeDeskModel" "taped" "I" : Cond) ∈ gT := gT_mem (List.mem_append_right _ (List.mem_append_right _ (List.mem_append_right _ (List.mem_append_right _ (List.mem_append_right _ (List.mem_append_right _ (List.mem_append_left _ (List.mem_of_getElem? (l := tables_1_6) (i := 157) rfl)))))))) rfl
theorem q_6_159 : (.lays "InodeDeskModel" "InodeDeskModel" "made" "Z" : Cond) ∈ gT := gT_mem (List.mem_append_right _ (List.mem_append_right _ (List.mem_append_right _ (List.mem_append_right _ (List.mem_append_right _ (List.mem_append_right _ (List.mem_append_left _ (List.mem_of_getElem? (l := tables_1_6) (i := 159) rfl)))))))) rfl
theorem q_6_161 : (.lays "InodeDeskModel" "InodeDeskModel" "shown" "Z" : Cond) ∈ gT := gT_mem (List.mem_append_right _ (List.mem_append_right _ (List.mem_append_right _ (List.mem_append_right _ (List.mem_append_right _ (List.mem_append_right _ (List.mem_append_left _ (List.mem_of_getElem? (l := tables_1_6) (i := 161) rfl)))))))) rfl
theorem q_6_163 : (.lays "InodeDeskModel" "InodeDeskModel" "p" "I" : Cond) ∈ gT := gT_mem (List.mem_append_right _ (List.mem_append_right _ (List.mem_append_right _ (List.mem_append_right _ (List.mem_append_right _ (List.mem_append_right _ (List.mem_append_left _ (List.mem_of_getElem? (l := tables_1_6) (i := 163) rfl)))))))) rfl
theorem q_6_165 : (.lays "InodeDeskModel" "InodeDeskModel" "g" "I" : Cond) ∈ gT := gT_mem (List.mem_append_right _ (List.mem_append_right _ (List.mem_append_right _ (List.mem_append_right _ (List.mem_append_right _ (List.mem_append_right _ (List.mem_append_left _ (List.mem_of_getElem? (l := tables_1_6) (i := 165) rfl)))))))) rfl
theorem q_6_167 : (.lays "InodeDeskModel" "InodeDeskModel" "j" "I" : Cond) ∈ gT := gT_mem (List.mem_append_right _ (List.mem_append_right _ (List.mem_append_right _ (List.mem_append_right _ (List.mem_append_right _ (List.mem_append_right _ (List.mem_append_left _ (List.mem_of_getElem? (l := tables_1_6) (i := 167) rfl)))))))) rfl
theorem q_6_169 : (.lays "InodeDeskModel" "InodeDeskModel" "q" "I" : Cond) ∈ gT := gT_mem (List.mem_append_right _ (List.mem_append_right _ (List.mem_append_right _ (List.mem_append_right _ (List.mem_append_right _ (List.mem_append_right _ (List.mem_append_left _ (List.mem_of_getElem? (l := tables_1_6) (i := 169) rfl)))))))) rfl
theorem q_6_171 : (.lays "InodeDeskModel" "InodeDeskModel" "id" "I" : Cond) ∈ gT := gT_mem (List.mem_append_right _ (List.mem_append_right _ (List.mem_append_right _ (List.mem_append_right _ (List.mem_append_right _ (List.mem_append_right _ (List.mem_append_left _ (List.mem_of_getElem? (l := tables_1_6) (i := 171) rfl)))))))) rfl
theorem q_6_173 : (.laysFinal "InodeDeskModel" "InodeDeskModel" "used" "[Z" : Cond) ∈ gT := gT_mem (List.mem_append_right _ (List.mem_append_right _ (List.mem_append_right _ (List.mem_append_right _ (List.mem_append_right _ (List.mem_append_right _ (List.mem_append_left _ (List.mem_of_getElem? (l := tables_1_6) (i := 173) rfl)))))))) rfl
theorem q_6_175 : (.laysFinal "InodeDeskModel" "InodeDeskModel" "next" "[I" : Cond) ∈ gT := gT_mem (List.mem_append_right _ (List.mem_append_right _ (List.mem_append_right _ (List.mem_append_right _ (List.mem_append_right _ (List.mem_append_right _ (List.mem_append_left _ (List.mem_of_getElem? (l := tables_1_6) (i := 175) rfl)))))))) rfl
theorem q_6_177 : (.laysFinal "InodeDeskModel" "InodeDeskModel" "kind" "[I" : Cond) ∈ gT := gT_mem (List.mem_append_right _ (List.mem_append_right _ (List.mem_append_right _ (List.mem_append_right _ (List.mem_append_right _ (List.mem_append_right _ (List.mem_append_left _ (List.mem_of_getElem? (l := tables_1_6) (i := 177) rfl)))))))) rfl
theorem q_6_179 : (.laysFinal "InodeDeskModel" "InodeDeskModel" "size" "[I" : Cond) ∈ gT := gT_mem (List.mem_append_right _ (List.mem_append_right _ (List.mem_append_right _ (List.mem_append_right _ (List.mem_append_right _ (List.mem_append_right _ (List.mem_append_left _ (List.mem_of_getElem? (l := tables_1_6) (i := 179) rfl)))))))) rfl
theorem q_6_181 : (.laysFinal "InodeDeskModel" "InodeDeskModel" "links" "[I" : Cond) ∈ gT := gT_mem (List.mem_append_right _ (List.mem_append_right _ (List.mem_append_right _ (List.mem_append_right _ (List.mem_append_right _ (List.mem_append_right _ (List.mem_append_left _ (List.mem_of_getElem? (l := tables_1_6) (i := 181) rfl)))))))) rfl
theorem q_6_183 : (.laysFinal "InodeDeskModel" "InodeDeskModel" "many" "[I" : Cond) ∈ gT := gT_mem (List.mem_append_right _ (List.mem_append_right _ (List.mem_append_right _ (List.mem_append_right _ (List.mem_append_right _ (List.mem_append_right _ (List.mem_append_left _ (List.mem_of_getElem? (l := tables_1_6) (i := 183) rfl)))))))) rfl
theorem q_6_185 : (.laysFinal "InodeDeskModel" "InodeDeskModel" "first" "[I" : Cond) ∈ gT := gT_mem (List.mem_append_right _ (List.mem_append_right _ (List.mem_append_right _ (List.mem_append_right _ (List.mem_append_right _ (List.mem_append_right _ (List.mem_append_left _ (List.mem_of_getElem? (l := tables_1_6) (i := 185) rfl)))))))) rfl
theorem q_6_187 : (.laysFinal "InodeDeskModel" "InodeDeskModel" "last" "[I" : Cond) ∈ gT := gT_mem (List.mem_append_right _ (List.mem_append_right _ (List.mem_append_right _ (List.mem_append_right _ (List.mem_append_right _ (List.mem_append_right _ (List.mem_append_left _ (List.mem_of_getElem? (l := tables_1_6) (i := 187) rfl)))))))) rfl
theorem q_6_189 : (.laysFinal "InodeDeskModel" "InodeDeskModel" "single" "[I" : Cond) ∈ gT := gT_mem (List.mem_append_right _ (List.mem_append_right _ (List.mem_append_right _ (List.mem_append_right _ (List.mem_append_right _ (List.mem_append_right _ (List.mem_append_left _ (List.mem_of_getElem? (l := tables_1_6) (i := 189) rfl)))))))) rfl
theorem q_6_191 : (.laysFinal "InodeDeskModel" "InodeDeskModel" "twofold" "[I" : Cond) ∈ gT := gT_mem (List.mem_append_right _ (List.mem_append_right _ (List.mem_append_right _ (List.mem_append_right _ (List.mem_append_right _ (List.mem_append_right _ (List.mem_append_left _ (List.mem_of_getElem? (l := tables_1_6) (i := 191) rfl)))))))) rfl
theorem q_6_193 : (.laysFinal "InodeDeskModel" "InodeDeskModel" "far" "[I" : Cond) ∈ gT := gT_mem (List.mem_append_right _ (List.mem_append_right _ (List.mem_append_right _ (List.mem_append_right _ (List.mem_append_right _ (List.mem_append_right _ (List.mem_append_left _ (List.mem_of_getElem? (l := tables_1_6) (i := 193) rfl)))))))) rfl
theorem q_6_195 : (.laysFinal "InodeDeskModel" "InodeDeskModel" "parent" "[I" : Cond) ∈ gT := gT_mem (List.mem_append_right _ (List.mem_append_right _ (List.mem_append_right _ (List.mem_append_right _ (List.mem_append_right _ (List.mem_append_right _ (List.mem_append_left _ (List.mem_of_getElem? (l := tables_1_6) (i := 195) rfl)))))))) rfl
theorem q_6_197 : (.laysFinal "InodeDeskModel" "InodeDeskModel" "time" "[J" : Cond) ∈ gT := gT_mem (List.mem_append_right _ (List.mem_append_right _ (List.mem_append_right _ (List.mem_append_right _ (List.mem_append_right _ (List.mem_append_right _ (List.mem_append_left _ (List.mem_of_getElem? (l := tables_1_6) (i := 197) rfl)))))))) rfl
theorem q_6_199 : (.lays "InodeDeskModel" "InodeDeskModel" "here" "I" : Cond) ∈ gT := gT_mem (List.mem_append_right _ (List.mem_append_right _ (List.mem_append_right _ (List.mem_append_right _ (List.mem_append_right _ (List.mem_append_right _ (List.mem_append_left _ (List.mem_of_getElem? (l := tables_1_6) (i := 199) rfl)))))))) rfl
theorem q_6_201 : (.lays "InodeDeskModel" "InodeDeskModel" "found" "I" : Cond) ∈ gT := gT_mem (List.mem_append_right _ (List.mem_append_right _ (List.mem_append_right _ (List.mem_append_right _ (List.mem_append_right _ (List.mem_append_right _ (List.mem_append_left _ (List.mem_of_getElem? (l := tables_1_6) (i := 201) rfl)))))))) rfl
theorem q_6_203 : (.lays "InodeDeskModel" "InodeDeskModel" "before" "I" : Cond) ∈ gT := gT_mem (List.mem_append_right _ (List.mem_append_right _ (List.mem_append_right _ (List.mem_append_right _ (List.mem_append_right _ (List.mem_append_right _ (List.mem_append_left _ (List.mem_of_getElem? (l := tables_1_6) (i := 203) rfl)))))))) rfl
theorem q_6_205 : (.laysFinal "InodeDeskModel" "InodeDeskModel" "name" "[I" : Cond) ∈ gT := gT_mem (List.mem_append_right _ (List.mem_append_right _ (List.mem_append_right _ (List.mem_append_right _ (List.mem_append_right _ (List.mem_append_right _ (List.mem_append_left _ (List.mem_of_getElem? (l := tables_1_6) (i := 205) rfl)))))))) rfl
theorem q_6_207 : (.lays "InodeDeskModel" "InodeDeskModel" "length" "I" : Cond) ∈ gT := gT_mem (List.mem_append_right _ (List.mem_append_right _ (List.mem_append_right _ (List.mem_append_right _ (List.mem_append_right _ (List.mem_append_right _ (List.mem_append_left _ (List.mem_of_getElem? (l := tables_1_6) (i := 207) rfl)))))))) rfl
theorem q_6_209 : (.lays "InodeDeskModel" "InodeDeskModel" "seen" "I" : Cond) ∈ gT := gT_mem (List.mem_append_right _ (List.mem_append_right _ (List.mem_append_right _ (List.mem_append_right _ (List.mem_append_right _ (List.mem_append_right _ (List.mem_append_left _ (List.mem_of_getElem? (l := tables_1_6) (i := 209) rfl)))))))) rfl
theorem in_X0 : ∀ x ∈ u_ws RX0 TX0 11, x ∈ gT := List.forall_mem_cons.mpr ⟨q_1_234, List.forall_mem_cons.mpr ⟨q_1_236, List.forall_mem_cons.mpr ⟨q_1_238, List.forall_mem_cons.mpr ⟨q_2_0, List.forall_mem_cons.mpr ⟨q_2_2, List.forall_mem_cons.mpr ⟨q_2_4, List.forall_mem_cons.mpr ⟨q_2_6, List.forall_mem_cons.mpr ⟨q_2_8, List.forall_mem_cons.mpr ⟨q_2_10, List.forall_mem_cons.mpr ⟨q_2_12, List.forall_mem_cons.mpr ⟨q_2_14, fun _ h => absurd h List.not_mem_nil⟩⟩⟩⟩⟩⟩⟩⟩⟩⟩⟩
theorem inc_X0 {c : Cond} : ∀ x ∈ u_ws RX0 TX0 11, x ∈ c :: gT := fun x h => List.mem_cons_of_mem _ (in_X0 x h)
theorem in_X1 : ∀ x ∈ u_ws RX1 TX1 1, x ∈ gT := List.forall_mem_cons.mpr ⟨q_1_54, fun _ h => absurd h List.not_mem_nil⟩
theorem inc_X1 {c : Cond} : ∀ x ∈ u_ws RX1 TX1 1, x ∈ c :: gT := fun x h => List.mem_cons_of_mem _ (in_X1 x h)
theorem in_X2 : ∀ x ∈ u_ws RX2 TX2 4, x ∈ gT := List.forall_mem_cons.mpr ⟨q_1_68, List.forall_mem_cons.mpr ⟨q_1_70, List.forall_mem_cons.mpr ⟨q_1_72, List.forall_mem_cons.mpr ⟨q_1_74, fun _ h => absurd h List.not_mem_nil⟩⟩⟩⟩
theorem inc_X2 {c : Cond} : ∀ x ∈ u_ws RX2 TX2 4, x ∈ c :: gT := fun x h => List.mem_cons_of_mem _ (in_X2 x h)
theorem in_X3 : ∀ x ∈ u_ws RX3 TX3 6, x ∈ gT := List.forall_mem_cons.mpr ⟨q_1_89, List.forall_mem_cons.mpr ⟨q_1_91, List.forall_mem_cons.mpr ⟨q_1_93, List.forall_mem_cons.mpr ⟨q_1_95, List.forall_mem_cons.mpr ⟨q_1_97, List.forall_mem_cons.mpr ⟨q_1_99, fun _ h => absurd h List.not_mem_nil⟩⟩⟩⟩⟩⟩
theorem inc_X3 {c : Cond} : ∀ x ∈ u_ws RX3 TX3 6, x ∈ c :: gT := fun x h => List.mem_cons_of_mem _ (in_X3 x h)
theorem in_X4 : ∀ x ∈ u_ws RX4 TX4 3, x ∈ gT := List.forall_mem_cons.mpr ⟨q_1_111, List.forall_mem_cons.mpr ⟨q_1_113, List.forall_mem_cons.mpr ⟨q_1_115, fun _ h => absurd h List.not_mem_nil⟩⟩⟩
theorem inc_X4 {c : Cond} : ∀ x ∈ u_ws RX4 TX4 3, x ∈ c :: gT := fun x h => List.mem_cons_of_mem _ (in_X4 x h)
theorem in_X5 : ∀ x ∈ u_ws RX5 TX5 4, x ∈ gT := List.forall_mem_cons.mpr ⟨q_1_128, List.forall_mem_cons.mpr ⟨q_1_130, List.forall_mem_cons.mpr ⟨q_1_132, List.forall_mem_cons.mpr ⟨q_1_134, fun _ h => absurd h List.not_mem_nil⟩⟩⟩⟩
theorem inc_X5 {c : Cond} : ∀ x ∈ u_ws RX5 TX5 4, x ∈ c :: gT := fun x h => List.mem_cons_of_mem _ (in_X5 x h)
theorem in_X6 : ∀ x ∈ u_ws RX6 TX6 4, x ∈ gT := List.forall_mem_cons.mpr ⟨q_1_148, List.forall_mem_cons.mpr ⟨q_1_150, List.forall_mem_cons.mpr ⟨q_1_152, List.forall_mem_cons.mpr ⟨q_1_154, fun _ h => absurd h List.not_mem_nil⟩⟩⟩⟩
theorem inc_X6 {c : Cond} : ∀ x ∈ u_ws RX6 TX6 4, x ∈ c :: gT := fun x h => List.mem_cons_of_mem _ (in_X6 x h)
theorem in_X7 : ∀ x ∈ u_ws RX7 TX7 11, x ∈ gT := List.forall_mem_cons.mpr ⟨q_1_181, List.forall_mem_cons.mpr ⟨q_1_183, List.forall_mem_cons.mpr ⟨q_1_185, List.forall_mem_cons.mpr ⟨q_1_187, List.forall_mem_cons.mpr ⟨q_1_189, List.forall_mem_cons.mpr ⟨q_1_191, List.forall_mem_cons.mpr ⟨q_1_193, List.forall_mem_cons.mpr ⟨q_1_195, List.forall_mem_cons.mpr ⟨q_1_197, List.forall_mem_cons.mpr ⟨q_1_199, List.forall_mem_cons.mpr ⟨q_1_201, fun _ h => absurd h List.not_mem_nil⟩⟩⟩⟩⟩⟩⟩⟩⟩⟩⟩
theorem inc_X7 {c : Cond} : ∀ x ∈ u_ws RX7 TX7 11, x ∈ c :: gT := fun x h => List.mem_cons_of_mem _ (in_X7 x h)
theorem in_X8 : ∀ x ∈ u_ws RX8 TX8 3, x ∈ gT := List.forall_mem_cons.mpr ⟨q_1_216, List.forall_mem_cons.mpr ⟨q_1_218, List.forall_mem_cons.mpr ⟨q_1_220, fun _ h => absurd h List.not_mem_nil⟩⟩⟩
theorem inc_X8 {c : Cond} : ∀ x ∈ u_ws RX8 TX8 3, x ∈ c :: gT := fun x h => List.mem_cons_of_mem _ (in_X8 x h)
theorem in_X11 : ∀ x ∈ u_ws RX11 TX11 1, x ∈ gT := List.forall_mem_cons.mpr ⟨q_6_47, fun _ h => absurd h List.not_mem_nil⟩
theorem inc_X11 {c : Cond} : ∀ x ∈ u_ws RX11 TX11 1, x ∈ c :: gT := fun x h => List.mem_cons_of_mem _ (in_X11 x h)
theorem in_X12 : ∀ x ∈ u_ws RX12 TX12 33, x ∈ gT := List.forall_mem_cons.mpr ⟨q_6_145, List.forall_mem_cons.mpr ⟨q_6_147, List.forall_mem_cons.mpr ⟨q_6_149, List.forall_mem_cons.mpr ⟨q_6_151, List.forall_mem_cons.mpr ⟨q_6_153, List.forall_mem_cons.mpr ⟨q_6_155, List.forall_mem_cons.mpr ⟨q_6_157, List.forall_mem_cons.mpr ⟨q_6_159, List.forall_mem_cons.mpr ⟨q_6_161, List.forall_mem_cons.mpr ⟨q_6_163, List.forall_mem_cons.mpr ⟨q_6_165, List.forall_mem_cons.mpr ⟨q_6_167, List.forall_mem_cons.mpr ⟨q_6_169, List.forall_mem_cons.mpr ⟨q_6_171, List.forall_mem_cons.mpr ⟨q_6_173, List.forall_mem_cons.mpr ⟨q_6_175, List.forall_mem_cons.mpr ⟨q_6_177, List.forall_mem_cons.mpr ⟨q_6_179, List.forall_mem_cons.mpr ⟨q_6_181, List.forall_mem_cons.mpr ⟨q_6_183, List.forall_mem_cons.mpr ⟨q_6_185, List.forall_mem_cons.mpr ⟨q_6_187, List.forall_mem_cons.mpr ⟨q_6_189, List.forall_mem_cons.mpr ⟨q_6_191, List.forall_mem_cons.mpr ⟨q_6_193, List.forall_mem_cons.mpr ⟨q_6_195, List.forall_mem_cons.mpr ⟨q_6_197, List.forall_mem_cons.mpr ⟨q_6_199, List.forall_mem_cons.mpr ⟨q_6_201, List.forall_mem_cons.mpr ⟨q_6_203, List.forall_mem_cons.mpr ⟨q_6_205, List.forall_mem_cons.mpr ⟨q_6_207, List.forall_mem_cons.mpr ⟨q_6_209, fun _ h => absurd h List.not_mem_nil⟩⟩⟩⟩⟩⟩⟩⟩⟩⟩⟩⟩⟩⟩⟩⟩⟩⟩⟩⟩⟩⟩⟩⟩⟩⟩⟩⟩⟩⟩⟩⟩⟩
theorem inc_X12 {c : Cond} : ∀ x ∈ u_ws RX12 TX12 33, x ∈ c :: gT := fun x h => List.mem_cons_of_mem _ (in_X12 x h)
def wsX0_init : List Cond := .code yX0_init cX0_init 3 none :: gT
theorem hdX0_init : yX0_init.cls = RX0 ∧ yX0_init.cls ≠ "java/lang/invoke/MethodHandle" ∧ yX0_init.cls ≠ "java/lang/invoke/VarHandle" ∧ (parseMethodDescriptor yX0_init.desc).map (fun d => d.parameters.length) = some 1 := by decide +kernel
def wsX1_init : List Cond := .code yX1_init cX1_init 2 none :: gT
theorem hdX1_init : yX1_init.cls = RX1 ∧ yX1_init.cls ≠ "java/lang/invoke/MethodHandle" ∧ yX1_init.cls ≠ "java/lang/invoke/VarHandle" ∧ (parseMethodDescriptor yX1_init.desc).map (fun d => d.parameters.length) = some 1 := by decide +kernel
def wsX2_init : List Cond := .code yX2_init cX2_init 2 none :: gT
theorem hdX2_init : yX2_init.cls = RX2 ∧ yX2_init.cls ≠ "java/lang/invoke/MethodHandle" ∧ yX2_init.cls ≠ "java/lang/invoke/VarHandle" ∧ (parseMethodDescriptor yX2_init.desc).map (fun d => d.parameters.length) = some 1 := by decide +kernel
def wsX3_init : List Cond := .code yX3_init cX3_init 4 none :: gT
theorem hdX3_init : yX3_init.cls = RX3 ∧ yX3_init.cls ≠ "java/lang/invoke/MethodHandle" ∧ yX3_init.cls ≠ "java/lang/invoke/VarHandle" ∧ (parseMethodDescriptor yX3_init.desc).map (fun d => d.parameters.length) = some 3 := by decide +kernel
def wsX4_init : List Cond := .code yX4_init cX4_init 4 none :: gT
theorem hdX4_init : yX4_init.cls = RX4 ∧ yX4_init.cls ≠ "java/lang/invoke/MethodHandle" ∧ yX4_init.cls ≠ "java/lang/invoke/VarHandle" ∧ (parseMethodDescriptor yX4_init.desc).map (fun d => d.parameters.length) = some 3 := by decide +kernel
def wsX5_init : List Cond := .code yX5_init cX5_init 3 none :: gT
theorem hdX5_init : yX5_init.cls = RX5 ∧ yX5_init.cls ≠ "java/lang/invoke/MethodHandle" ∧ yX5_init.cls ≠ "java/lang/invoke/VarHandle" ∧ (parseMethodDescriptor yX5_init.desc).map (fun d => d.parameters.length) = some 2 := by decide +kernel
def wsX6_init : List Cond := .code yX6_init cX6_init 5 none :: gT
theorem hdX6_init : yX6_init.cls = RX6 ∧ yX6_init.cls ≠ "java/lang/invoke/MethodHandle" ∧ yX6_init.cls ≠ "java/lang/invoke/VarHandle" ∧ (parseMethodDescriptor yX6_init.desc).map (fun d => d.parameters.length) = some 4 := by decide +kernel
def wsX7_init : List Cond := .code yX7_init cX7_init 8 none :: gT
theorem hdX7_init : yX7_init.cls = RX7 ∧ yX7_init.cls ≠ "java/lang/invoke/MethodHandle" ∧ yX7_init.cls ≠ "java/lang/invoke/VarHandle" ∧ (parseMethodDescriptor yX7_init.desc).map (fun d => d.parameters.length) = some 7 := by decide +kernel
def wsX2_blocks : List Cond := .code yX2_blocks cX2_blocks 1 (some .int) :: gT
theorem hdX2_blocks : yX2_blocks.cls = RX2 ∧ yX2_blocks.cls ≠ "java/lang/invoke/MethodHandle" ∧ yX2_blocks.cls ≠ "java/lang/invoke/VarHandle" ∧ (parseMethodDescriptor yX2_blocks.desc).map (fun d => d.parameters.length) = some 0 := by decide +kernel
def wsX8_init : List Cond := .code yX8_init cX8_init 1 none :: gT
theorem hdX8_init : yX8_init.cls = RX8 ∧ yX8_init.cls ≠ "java/lang/invoke/MethodHandle" ∧ yX8_init.cls ≠ "java/lang/invoke/VarHandle" ∧ (parseMethodDescriptor yX8_init.desc).map (fun d => d.parameters.length) = some 0 := by decide +kernel
def wsX9_init : List Cond := .code yX9_init cX9_init 1 none :: gT
theorem hdX9_init : yX9_init.cls = RX9 ∧ yX9_init.cls ≠ "java/lang/invoke/MethodHandle" ∧ yX9_init.cls ≠ "java/lang/invoke/VarHandle" ∧ (parseMethodDescriptor yX9_init.desc).map (fun d => d.parameters.length) = some 0 := by decide +kernel
def wsX0_feed : List Cond := .code yX0_feed cX0_feed 6 none :: gT
theorem hdX0_feed : yX0_feed.cls = RX0 ∧ yX0_feed.cls ≠ "java/lang/invoke/MethodHandle" ∧ yX0_feed.cls ≠ "java/lang/invoke/VarHandle" ∧ (parseMethodDescriptor yX0_feed.desc).map (fun d => d.parameters.length) = some 5 := by decide +kernel
def wsX8_prepare : List Cond := .code yX8_prepare cX8_prepare 5 none :: gT
theorem hdX8_prepare : yX8_prepare.cls = RX8 ∧ yX8_prepare.cls ≠ "java/lang/invoke/MethodHandle" ∧ yX8_prepare.cls ≠ "java/lang/invoke/VarHandle" ∧ (parseMethodDescriptor yX8_prepare.desc).map (fun d => d.parameters.length) = some 2 := by decide +kernel
def wsX0_end : List Cond := .code yX0_end cX0_end 2 (some .int) :: gT
theorem hdX0_end : yX0_end.cls = RX0 ∧ yX0_end.cls ≠ "java/lang/invoke/MethodHandle" ∧ yX0_end.cls ≠ "java/lang/invoke/VarHandle" ∧ (parseMethodDescriptor yX0_end.desc).map (fun d => d.parameters.length) = some 1 := by decide +kernel
def wsX8_bring : List Cond := .code yX8_bring cX8_bring 2 (some .int) :: gT
theorem hdX8_bring : yX8_bring.cls = RX8 ∧ yX8_bring.cls ≠ "java/lang/invoke/MethodHandle" ∧ yX8_bring.cls ≠ "java/lang/invoke/VarHandle" ∧ (parseMethodDescriptor yX8_bring.desc).map (fun d => d.parameters.length) = some 1 := by decide +kernel
def wsX0_byteAt : List Cond := .code yX0_byteAt cX0_byteAt 4 (some .int) :: gT
theorem hdX0_byteAt : yX0_byteAt.cls = RX0 ∧ yX0_byteAt.cls ≠ "java/lang/invoke/MethodHandle" ∧ yX0_byteAt.cls ≠ "java/lang/invoke/VarHandle" ∧ (parseMethodDescriptor yX0_byteAt.desc).map (fun d => d.parameters.length) = some 1 := by decide +kernel
def wsX1_length : List Cond := .code yX1_length cX1_length 1 (some .int) :: gT
theorem hdX1_length : yX1_length.cls = RX1 ∧ yX1_length.cls ≠ "java/lang/invoke/MethodHandle" ∧ yX1_length.cls ≠ "java/lang/invoke/VarHandle" ∧ (parseMethodDescriptor yX1_length.desc).map (fun d => d.parameters.length) = some 0 := by decide +kernel
def wsX3_isUsed : List Cond := .code yX3_isUsed cX3_isUsed 3 (some .boolean) :: gT
theorem hdX3_isUsed : yX3_isUsed.cls = RX3 ∧ yX3_isUsed.cls ≠ "java/lang/invoke/MethodHandle" ∧ yX3_isUsed.cls ≠ "java/lang/invoke/VarHandle" ∧ (parseMethodDescriptor yX3_isUsed.desc).map (fun d => d.parameters.length) = some 1 := by decide +kernel
def wsX2_partAt : List Cond := .code yX2_partAt cX2_partAt 3 (some .int) :: gT
theorem hdX2_partAt : yX2_partAt.cls = RX2 ∧ yX2_partAt.cls ≠ "java/lang/invoke/MethodHandle" ∧ yX2_partAt.cls ≠ "java/lang/invoke/VarHandle" ∧ (parseMethodDescriptor yX2_partAt.desc).map (fun d => d.parameters.length) = some 2 := by decide +kernel
def wsX1_get : List Cond := .code yX1_get cX1_get 2 (some .int) :: gT
theorem hdX1_get : yX1_get.cls = RX1 ∧ yX1_get.cls ≠ "java/lang/invoke/MethodHandle" ∧ yX1_get.cls ≠ "java/lang/invoke/VarHandle" ∧ (parseMethodDescriptor yX1_get.desc).map (fun d => d.parameters.length) = some 1 := by decide +kernel
def wsX0_fault : List Cond := .code yX0_fault cX0_fault 1 (some .int) :: gT
theorem hdX0_fault : yX0_fault.cls = RX0 ∧ yX0_fault.cls ≠ "java/lang/invoke/MethodHandle" ∧ yX0_fault.cls ≠ "java/lang/invoke/VarHandle" ∧ (parseMethodDescriptor yX0_fault.desc).map (fun d => d.parameters.length) = some 0 := by decide +kernel
def wsX7_allHolds : List Cond := .code yX7_allHolds cX7_allHolds 2 (some .boolean) :: gT
theorem hdX7_allHolds : yX7_allHolds.cls = RX7 ∧ yX7_allHolds.cls ≠ "java/lang/invoke/MethodHandle" ∧ yX7_allHolds.cls ≠ "java/lang/invoke/VarHandle" ∧ (parseMethodDescriptor yX7_allHolds.desc).map (fun d => d.parameters.length) = some 1 := by decide +kernel
def wsX7_claimFixed : List Cond := .code yX7_claimFixed cX7_claimFixed 3 none :: gT
theorem hdX7_claimFixed : yX7_claimFixed.cls = RX7 ∧ yX7_claimFixed.cls ≠ "java/lang/invoke/MethodHandle" ∧ yX7_claimFixed.cls ≠ "java/lang/invoke/VarHandle" ∧ (parseMethodDescriptor yX7_claimFixed.desc).map (fun d => d.parameters.length) = some 0 := by decide +kernel
def wsX2_groups : List Cond := .code yX2_groups cX2_groups 1 (some .int) :: gT
theorem hdX2_groups : yX2_groups.cls = RX2 ∧ yX2_groups.cls ≠ "java/lang/invoke/MethodHandle" ∧ yX2_groups.cls ≠ "java/lang/invoke/VarHandle" ∧ (parseMethodDescriptor yX2_groups.desc).map (fun d => d.parameters.length) = some 0 := by decide +kernel
def wsX2_fixedBlocks : List Cond := .code yX2_fixedBlocks cX2_fixedBlocks 1 (some .int) :: gT
theorem hdX2_fixedBlocks : yX2_fixedBlocks.cls = RX2 ∧ yX2_fixedBlocks.cls ≠ "java/lang/invoke/MethodHandle" ∧ yX2_fixedBlocks.cls ≠ "java/lang/invoke/VarHandle" ∧ (parseMethodDescriptor yX2_fixedBlocks.desc).map (fun d => d.parameters.length) = some 0 := by decide +kernel
def wsX2_firstBlock : List Cond := .code yX2_firstBlock cX2_firstBlock 2 (some .int) :: gT
theorem hdX2_firstBlock : yX2_firstBlock.cls = RX2 ∧ yX2_firstBlock.cls ≠ "java/lang/invoke/MethodHandle" ∧ yX2_firstBlock.cls ≠ "java/lang/invoke/VarHandle" ∧ (parseMethodDescriptor yX2_firstBlock.desc).map (fun d => d.parameters.length) = some 1 := by decide +kernel
def wsX7_claim : List Cond := .code yX7_claim cX7_claim 2 (some .boolean) :: gT
theorem hdX7_claim : yX7_claim.cls = RX7 ∧ yX7_claim.cls ≠ "java/lang/invoke/MethodHandle" ∧ yX7_claim.cls ≠ "java/lang/invoke/VarHandle" ∧ (parseMethodDescriptor yX7_claim.desc).map (fun d => d.parameters.length) = some 1 := by decide +kernel
def wsX7_inodesHold : List Cond := .code yX7_inodesHold cX7_inodesHold 4 (some .boolean) :: gT
theorem hdX7_inodesHold : yX7_inodesHold.cls = RX7 ∧ yX7_inodesHold.cls ≠ "java/lang/invoke/MethodHandle" ∧ yX7_inodesHold.cls ≠ "java/lang/invoke/VarHandle" ∧ (parseMethodDescriptor yX7_inodesHold.desc).map (fun d => d.parameters.length) = some 0 := by decide +kernel
def wsX2_inodes : List Cond := .code yX2_inodes cX2_inodes 1 (some .int) :: gT
theorem hdX2_inodes : yX2_inodes.cls = RX2 ∧ yX2_inodes.cls ≠ "java/lang/invoke/MethodHandle" ∧ yX2_inodes.cls ≠ "java/lang/invoke/VarHandle" ∧ (parseMethodDescriptor yX2_inodes.desc).map (fun d => d.parameters.length) = some 0 := by decide +kernel
def wsX2_inodeAt : List Cond := .code yX2_inodeAt cX2_inodeAt 3 (some .int) :: gT
theorem hdX2_inodeAt : yX2_inodeAt.cls = RX2 ∧ yX2_inodeAt.cls ≠ "java/lang/invoke/MethodHandle" ∧ yX2_inodeAt.cls ≠ "java/lang/invoke/VarHandle" ∧ (parseMethodDescriptor yX2_inodeAt.desc).map (fun d => d.parameters.length) = some 1 := by decide +kernel
def wsX7_inodeHolds : List Cond := .code yX7_inodeHolds cX7_inodeHolds 5 (some .boolean) :: gT
theorem hdX7_inodeHolds : yX7_inodeHolds.cls = RX7 ∧ yX7_inodeHolds.cls ≠ "java/lang/invoke/MethodHandle" ∧ yX7_inodeHolds.cls ≠ "java/lang/invoke/VarHandle" ∧ (parseMethodDescriptor yX7_inodeHolds.desc).map (fun d => d.parameters.length) = some 1 := by decide +kernel
def wsX1_get2 : List Cond := .code yX1_get2 cX1_get2 2 (some .int) :: gT
theorem hdX1_get2 : yX1_get2.cls = RX1 ∧ yX1_get2.cls ≠ "java/lang/invoke/MethodHandle" ∧ yX1_get2.cls ≠ "java/lang/invoke/VarHandle" ∧ (parseMethodDescriptor yX1_get2.desc).map (fun d => d.parameters.length) = some 1 := by decide +kernel
def wsX1_get4 : List Cond := .code yX1_get4 cX1_get4 2 (some .int) :: gT
theorem hdX1_get4 : yX1_get4.cls = RX1 ∧ yX1_get4.cls ≠ "java/lang/invoke/MethodHandle" ∧ yX1_get4.cls ≠ "java/lang/invoke/VarHandle" ∧ (parseMethodDescriptor yX1_get4.desc).map (fun d => d.parameters.length) = some 1 := by decide +kernel
def wsX4_blocksFor : List Cond := .code yX4_blocksFor cX4_blocksFor 1 (some .int) :: gT
theorem hdX4_blocksFor : yX4_blocksFor.cls = RX4 ∧ yX4_blocksFor.cls ≠ "java/lang/invoke/MethodHandle" ∧ yX4_blocksFor.cls ≠ "java/lang/invoke/VarHandle" ∧ (parseMethodDescriptor yX4_blocksFor.desc).map (fun d => d.parameters.length) = some 1 := by decide +kernel
def wsX1_isZero : List Cond := .code yX1_isZero cX1_isZero 4 (some .boolean) :: gT
theorem hdX1_isZero : yX1_isZero.cls = RX1 ∧ yX1_isZero.cls ≠ "java/lang/invoke/MethodHandle" ∧ yX1_isZero.cls ≠ "java/lang/invoke/VarHandle" ∧ (parseMethodDescriptor yX1_isZero.desc).map (fun d => d.parameters.length) = some 2 := by decide +kernel
def wsX4_withIndirect : List Cond := .code yX4_withIndirect cX4_withIndirect 1 (some .int) :: gT
theorem hdX4_withIndirect : yX4_withIndirect.cls = RX4 ∧ yX4_withIndirect.cls ≠ "java/lang/invoke/MethodHandle" ∧ yX4_withIndirect.cls ≠ "java/lang/invoke/VarHandle" ∧ (parseMethodDescriptor yX4_withIndirect.desc).map (fun d => d.parameters.length) = some 1 := by decide +kernel
def wsX7_pointersHold : List Cond := .code yX7_pointersHold cX7_pointersHold 8 (some .boolean) :: gT
theorem hdX7_pointersHold : yX7_pointersHold.cls = RX7 ∧ yX7_pointersHold.cls ≠ "java/lang/invoke/MethodHandle" ∧ yX7_pointersHold.cls ≠ "java/lang/invoke/VarHandle" ∧ (parseMethodDescriptor yX7_pointersHold.desc).map (fun d => d.parameters.length) = some 2 := by decide +kernel
def wsX7_rowHolds : List Cond := .code yX7_rowHolds cX7_rowHolds 6 (some .boolean) :: gT
theorem hdX7_rowHolds : yX7_rowHolds.cls = RX7 ∧ yX7_rowHolds.cls ≠ "java/lang/invoke/MethodHandle" ∧ yX7_rowHolds.cls ≠ "java/lang/invoke/VarHandle" ∧ (parseMethodDescriptor yX7_rowHolds.desc).map (fun d => d.parameters.length) = some 3 := by decide +kernel
def wsX7_directoriesHold : List Cond := .code yX7_directoriesHold cX7_directoriesHold 2 (some .boolean) :: gT
theorem hdX7_directoriesHold : yX7_directoriesHold.cls = RX7 ∧ yX7_directoriesHold.cls ≠ "java/lang/invoke/MethodHandle" ∧ yX7_directoriesHold.cls ≠ "java/lang/invoke/VarHandle" ∧ (parseMethodDescriptor yX7_directoriesHold.desc).map (fun d => d.parameters.length) = some 0 := by decide +kernel
def wsX4_isDirectory : List Cond := .code yX4_isDirectory cX4_isDirectory 2 (some .boolean) :: gT
theorem hdX4_isDirectory : yX4_isDirectory.cls = RX4 ∧ yX4_isDirectory.cls ≠ "java/lang/invoke/MethodHandle" ∧ yX4_isDirectory.cls ≠ "java/lang/invoke/VarHandle" ∧ (parseMethodDescriptor yX4_isDirectory.desc).map (fun d => d.parameters.length) = some 1 := by decide +kernel
def wsX5_read : List Cond := .code yX5_read cX5_read 6 none :: gT
theorem hdX5_read : yX5_read.cls = RX5 ∧ yX5_read.cls ≠ "java/lang/invoke/MethodHandle" ∧ yX5_read.cls ≠ "java/lang/invoke/VarHandle" ∧ (parseMethodDescriptor yX5_read.desc).map (fun d => d.parameters.length) = some 1 := by decide +kernel
def wsX4_size : List Cond := .code yX4_size cX4_size 2 (some .int) :: gT
theorem hdX4_size : yX4_size.cls = RX4 ∧ yX4_size.cls ≠ "java/lang/invoke/MethodHandle" ∧ yX4_size.cls ≠ "java/lang/invoke/VarHandle" ∧ (parseMethodDescriptor yX4_size.desc).map (fun d => d.parameters.length) = some 1 := by decide +kernel
def wsX4_blockOf : List Cond := .code yX4_blockOf cX4_blockOf 3 (some .int) :: gT
theorem hdX4_blockOf : yX4_blockOf.cls = RX4 ∧ yX4_blockOf.cls ≠ "java/lang/invoke/MethodHandle" ∧ yX4_blockOf.cls ≠ "java/lang/invoke/VarHandle" ∧ (parseMethodDescriptor yX4_blockOf.desc).map (fun d => d.parameters.length) = some 2 := by decide +kernel
def wsX4_pointerAt : List Cond := .code yX4_pointerAt cX4_pointerAt 4 (some .int) :: gT
theorem hdX4_pointerAt : yX4_pointerAt.cls = RX4 ∧ yX4_pointerAt.cls ≠ "java/lang/invoke/MethodHandle" ∧ yX4_pointerAt.cls ≠ "java/lang/invoke/VarHandle" ∧ (parseMethodDescriptor yX4_pointerAt.desc).map (fun d => d.parameters.length) = some 2 := by decide +kernel
def wsX7_dotsHold : List Cond := .code yX7_dotsHold cX7_dotsHold 2 (some .boolean) :: gT
theorem hdX7_dotsHold : yX7_dotsHold.cls = RX7 ∧ yX7_dotsHold.cls ≠ "java/lang/invoke/MethodHandle" ∧ yX7_dotsHold.cls ≠ "java/lang/invoke/VarHandle" ∧ (parseMethodDescriptor yX7_dotsHold.desc).map (fun d => d.parameters.length) = some 1 := by decide +kernel
def wsX5_count : List Cond := .code yX5_count cX5_count 1 (some .int) :: gT
theorem hdX5_count : yX5_count.cls = RX5 ∧ yX5_count.cls ≠ "java/lang/invoke/MethodHandle" ∧ yX5_count.cls ≠ "java/lang/invoke/VarHandle" ∧ (parseMethodDescriptor yX5_count.desc).map (fun d => d.parameters.length) = some 0 := by decide +kernel
def wsX7_entryHolds : List Cond := .code yX7_entryHolds cX7_entryHolds 8 (some .boolean) :: gT
theorem hdX7_entryHolds : yX7_entryHolds.cls = RX7 ∧ yX7_entryHolds.cls ≠ "java/lang/invoke/MethodHandle" ∧ yX7_entryHolds.cls ≠ "java/lang/invoke/VarHandle" ∧ (parseMethodDescriptor yX7_entryHolds.desc).map (fun d => d.parameters.length) = some 1 := by decide +kernel
def wsX5_entryAt : List Cond := .code yX5_entryAt cX5_entryAt 2 (some .int) :: gT
theorem hdX5_entryAt : yX5_entryAt.cls = RX5 ∧ yX5_entryAt.cls ≠ "java/lang/invoke/MethodHandle" ∧ yX5_entryAt.cls ≠ "java/lang/invoke/VarHandle" ∧ (parseMethodDescriptor yX5_entryAt.desc).map (fun d => d.parameters.length) = some 1 := by decide +kernel
def wsX5_lengthOf : List Cond := .code yX5_lengthOf cX5_lengthOf 2 (some .int) :: gT
theorem hdX5_lengthOf : yX5_lengthOf.cls = RX5 ∧ yX5_lengthOf.cls ≠ "java/lang/invoke/MethodHandle" ∧ yX5_lengthOf.cls ≠ "java/lang/invoke/VarHandle" ∧ (parseMethodDescriptor yX5_lengthOf.desc).map (fun d => d.parameters.length) = some 1 := by decide +kernel
def wsX5_inodeOf : List Cond := .code yX5_inodeOf cX5_inodeOf 2 (some .int) :: gT
theorem hdX5_inodeOf : yX5_inodeOf.cls = RX5 ∧ yX5_inodeOf.cls ≠ "java/lang/invoke/MethodHandle" ∧ yX5_inodeOf.cls ≠ "java/lang/invoke/VarHandle" ∧ (parseMethodDescriptor yX5_inodeOf.desc).map (fun d => d.parameters.length) = some 1 := by decide +kernel
def wsX5_usedBy : List Cond := .code yX5_usedBy cX5_usedBy 3 (some .int) :: gT
theorem hdX5_usedBy : yX5_usedBy.cls = RX5 ∧ yX5_usedBy.cls ≠ "java/lang/invoke/MethodHandle" ∧ yX5_usedBy.cls ≠ "java/lang/invoke/VarHandle" ∧ (parseMethodDescriptor yX5_usedBy.desc).map (fun d => d.parameters.length) = some 1 := by decide +kernel
def wsX5_spaceFor : List Cond := .code yX5_spaceFor cX5_spaceFor 1 (some .int) :: gT
theorem hdX5_spaceFor : yX5_spaceFor.cls = RX5 ∧ yX5_spaceFor.cls ≠ "java/lang/invoke/MethodHandle" ∧ yX5_spaceFor.cls ≠ "java/lang/invoke/VarHandle" ∧ (parseMethodDescriptor yX5_spaceFor.desc).map (fun d => d.parameters.length) = some 1 := by decide +kernel
def wsX5_nameLengthOf : List Cond := .code yX5_nameLengthOf cX5_nameLengthOf 2 (some .int) :: gT
theorem hdX5_nameLengthOf : yX5_nameLengthOf.cls = RX5 ∧ yX5_nameLengthOf.cls ≠ "java/lang/invoke/MethodHandle" ∧ yX5_nameLengthOf.cls ≠ "java/lang/invoke/VarHandle" ∧ (parseMethodDescriptor yX5_nameLengthOf.desc).map (fun d => d.parameters.length) = some 1 := by decide +kernel
def wsX5_letterOf : List Cond := .code yX5_letterOf cX5_letterOf 5 (some .int) :: gT
theorem hdX5_letterOf : yX5_letterOf.cls = RX5 ∧ yX5_letterOf.cls ≠ "java/lang/invoke/MethodHandle" ∧ yX5_letterOf.cls ≠ "java/lang/invoke/VarHandle" ∧ (parseMethodDescriptor yX5_letterOf.desc).map (fun d => d.parameters.length) = some 2 := by decide +kernel
def wsX5_parent : List Cond := .code yX5_parent cX5_parent 1 (some .int) :: gT
theorem hdX5_parent : yX5_parent.cls = RX5 ∧ yX5_parent.cls ≠ "java/lang/invoke/MethodHandle" ∧ yX5_parent.cls ≠ "java/lang/invoke/VarHandle" ∧ (parseMethodDescriptor yX5_parent.desc).map (fun d => d.parameters.length) = some 0 := by decide +kernel
def wsX7_itemsHold : List Cond := .code yX7_itemsHold cX7_itemsHold 5 (some .boolean) :: gT
theorem hdX7_itemsHold : yX7_itemsHold.cls = RX7 ∧ yX7_itemsHold.cls ≠ "java/lang/invoke/MethodHandle" ∧ yX7_itemsHold.cls ≠ "java/lang/invoke/VarHandle" ∧ (parseMethodDescriptor yX7_itemsHold.desc).map (fun d => d.parameters.length) = some 1 := by decide +kernel
def wsX7_nameHolds : List Cond := .code yX7_nameHolds cX7_nameHolds 5 (some .boolean) :: gT
theorem hdX7_nameHolds : yX7_nameHolds.cls = RX7 ∧ yX7_nameHolds.cls ≠ "java/lang/invoke/MethodHandle" ∧ yX7_nameHolds.cls ≠ "java/lang/invoke/VarHandle" ∧ (parseMethodDescriptor yX7_nameHolds.desc).map (fun d => d.parameters.length) = some 1 := by decide +kernel
def wsX7_sameName : List Cond := .code yX7_sameName cX7_sameName 8 (some .boolean) :: gT
theorem hdX7_sameName : yX7_sameName.cls = RX7 ∧ yX7_sameName.cls ≠ "java/lang/invoke/MethodHandle" ∧ yX7_sameName.cls ≠ "java/lang/invoke/VarHandle" ∧ (parseMethodDescriptor yX7_sameName.desc).map (fun d => d.parameters.length) = some 2 := by decide +kernel
def wsX7_hold : List Cond := .code yX7_hold cX7_hold 3 (some .boolean) :: gT
theorem hdX7_hold : yX7_hold.cls = RX7 ∧ yX7_hold.cls ≠ "java/lang/invoke/MethodHandle" ∧ yX7_hold.cls ≠ "java/lang/invoke/VarHandle" ∧ (parseMethodDescriptor yX7_hold.desc).map (fun d => d.parameters.length) = some 2 := by decide +kernel
def wsX4_links : List Cond := .code yX4_links cX4_links 2 (some .int) :: gT
theorem hdX4_links : yX4_links.cls = RX4 ∧ yX4_links.cls ≠ "java/lang/invoke/MethodHandle" ∧ yX4_links.cls ≠ "java/lang/invoke/VarHandle" ∧ (parseMethodDescriptor yX4_links.desc).map (fun d => d.parameters.length) = some 1 := by decide +kernel
def wsX7_treeHolds : List Cond := .code yX7_treeHolds cX7_treeHolds 3 (some .boolean) :: gT
theorem hdX7_treeHolds : yX7_treeHolds.cls = RX7 ∧ yX7_treeHolds.cls ≠ "java/lang/invoke/MethodHandle" ∧ yX7_treeHolds.cls ≠ "java/lang/invoke/VarHandle" ∧ (parseMethodDescriptor yX7_treeHolds.desc).map (fun d => d.parameters.length) = some 0 := by decide +kernel
def wsX7_holderOf : List Cond := .code yX7_holderOf cX7_holderOf 2 (some .int) :: gT
theorem hdX7_holderOf : yX7_holderOf.cls = RX7 ∧ yX7_holderOf.cls ≠ "java/lang/invoke/MethodHandle" ∧ yX7_holderOf.cls ≠ "java/lang/invoke/VarHandle" ∧ (parseMethodDescriptor yX7_holderOf.desc).map (fun d => d.parameters.length) = some 1 := by decide +kernel
def wsX7_parentHolds : List Cond := .code yX7_parentHolds cX7_parentHolds 4 (some .boolean) :: gT
theorem hdX7_parentHolds : yX7_parentHolds.cls = RX7 ∧ yX7_parentHolds.cls ≠ "java/lang/invoke/MethodHandle" ∧ yX7_parentHolds.cls ≠ "java/lang/invoke/VarHandle" ∧ (parseMethodDescriptor yX7_parentHolds.desc).map (fun d => d.parameters.length) = some 1 := by decide +kernel
def wsX7_parentOf : List Cond := .code yX7_parentOf cX7_parentOf 2 (some .int) :: gT
theorem hdX7_parentOf : yX7_parentOf.cls = RX7 ∧ yX7_parentOf.cls ≠ "java/lang/invoke/MethodHandle" ∧ yX7_parentOf.cls ≠ "java/lang/invoke/VarHandle" ∧ (parseMethodDescriptor yX7_parentOf.desc).map (fun d => d.parameters.length) = some 1 := by decide +kernel
def wsX7_mapsHold : List Cond := .code yX7_mapsHold cX7_mapsHold 2 (some .boolean) :: gT
theorem hdX7_mapsHold : yX7_mapsHold.cls = RX7 ∧ yX7_mapsHold.cls ≠ "java/lang/invoke/MethodHandle" ∧ yX7_mapsHold.cls ≠ "java/lang/invoke/VarHandle" ∧ (parseMethodDescriptor yX7_mapsHold.desc).map (fun d => d.parameters.length) = some 0 := by decide +kernel
def wsX3_tailHolds : List Cond := .code yX3_tailHolds cX3_tailHolds 6 (some .boolean) :: gT
theorem hdX3_tailHolds : yX3_tailHolds.cls = RX3 ∧ yX3_tailHolds.cls ≠ "java/lang/invoke/MethodHandle" ∧ yX3_tailHolds.cls ≠ "java/lang/invoke/VarHandle" ∧ (parseMethodDescriptor yX3_tailHolds.desc).map (fun d => d.parameters.length) = some 1 := by decide +kernel
def wsX3_realIn : List Cond := .code yX3_realIn cX3_realIn 2 (some .int) :: gT
theorem hdX3_realIn : yX3_realIn.cls = RX3 ∧ yX3_realIn.cls ≠ "java/lang/invoke/MethodHandle" ∧ yX3_realIn.cls ≠ "java/lang/invoke/VarHandle" ∧ (parseMethodDescriptor yX3_realIn.desc).map (fun d => d.parameters.length) = some 1 := by decide +kernel
def wsX2_blocksIn : List Cond := .code yX2_blocksIn cX2_blocksIn 2 (some .int) :: gT
theorem hdX2_blocksIn : yX2_blocksIn.cls = RX2 ∧ yX2_blocksIn.cls ≠ "java/lang/invoke/MethodHandle" ∧ yX2_blocksIn.cls ≠ "java/lang/invoke/VarHandle" ∧ (parseMethodDescriptor yX2_blocksIn.desc).map (fun d => d.parameters.length) = some 1 := by decide +kernel
def wsX2_groupInodes : List Cond := .code yX2_groupInodes cX2_groupInodes 1 (some .int) :: gT
theorem hdX2_groupInodes : yX2_groupInodes.cls = RX2 ∧ yX2_groupInodes.cls ≠ "java/lang/invoke/MethodHandle" ∧ yX2_groupInodes.cls ≠ "java/lang/invoke/VarHandle" ∧ (parseMethodDescriptor yX2_groupInodes.desc).map (fun d => d.parameters.length) = some 0 := by decide +kernel
def wsX7_headsHold : List Cond := .code yX7_headsHold cX7_headsHold 4 (some .boolean) :: gT
theorem hdX7_headsHold : yX7_headsHold.cls = RX7 ∧ yX7_headsHold.cls ≠ "java/lang/invoke/MethodHandle" ∧ yX7_headsHold.cls ≠ "java/lang/invoke/VarHandle" ∧ (parseMethodDescriptor yX7_headsHold.desc).map (fun d => d.parameters.length) = some 0 := by decide +kernel
def wsX1_fill : List Cond := .code yX1_fill cX1_fill 4 none :: gT
theorem hdX1_fill : yX1_fill.cls = RX1 ∧ yX1_fill.cls ≠ "java/lang/invoke/MethodHandle" ∧ yX1_fill.cls ≠ "java/lang/invoke/VarHandle" ∧ (parseMethodDescriptor yX1_fill.desc).map (fun d => d.parameters.length) = some 3 := by decide +kernel
def wsX6_sketch : List Cond := .code yX6_sketch cX6_sketch 7 none :: gT
theorem hdX6_sketch : yX6_sketch.cls = RX6 ∧ yX6_sketch.cls ≠ "java/lang/invoke/MethodHandle" ∧ yX6_sketch.cls ≠ "java/lang/invoke/VarHandle" ∧ (parseMethodDescriptor yX6_sketch.desc).map (fun d => d.parameters.length) = some 3 := by decide +kernel
def wsX3_freeIn : List Cond := .code yX3_freeIn cX3_freeIn 5 (some .int) :: gT
theorem hdX3_freeIn : yX3_freeIn.cls = RX3 ∧ yX3_freeIn.cls ≠ "java/lang/invoke/MethodHandle" ∧ yX3_freeIn.cls ≠ "java/lang/invoke/VarHandle" ∧ (parseMethodDescriptor yX3_freeIn.desc).map (fun d => d.parameters.length) = some 1 := by decide +kernel
def wsX6_describe : List Cond := .code yX6_describe cX6_describe 5 none :: gT
theorem hdX6_describe : yX6_describe.cls = RX6 ∧ yX6_describe.cls ≠ "java/lang/invoke/MethodHandle" ∧ yX6_describe.cls ≠ "java/lang/invoke/VarHandle" ∧ (parseMethodDescriptor yX6_describe.desc).map (fun d => d.parameters.length) = some 3 := by decide +kernel
def wsX1_put4 : List Cond := .code yX1_put4 cX1_put4 3 none :: gT
theorem hdX1_put4 : yX1_put4.cls = RX1 ∧ yX1_put4.cls ≠ "java/lang/invoke/MethodHandle" ∧ yX1_put4.cls ≠ "java/lang/invoke/VarHandle" ∧ (parseMethodDescriptor yX1_put4.desc).map (fun d => d.parameters.length) = some 2 := by decide +kernel
def wsX1_put2 : List Cond := .code yX1_put2 cX1_put2 3 none :: gT
theorem hdX1_put2 : yX1_put2.cls = RX1 ∧ yX1_put2.cls ≠ "java/lang/invoke/MethodHandle" ∧ yX1_put2.cls ≠ "java/lang/invoke/VarHandle" ∧ (parseMethodDescriptor yX1_put2.desc).map (fun d => d.parameters.length) = some 2 := by decide +kernel
def wsX4_directoriesIn : List Cond := .code yX4_directoriesIn cX4_directoriesIn 5 (some .int) :: gT
theorem hdX4_directoriesIn : yX4_directoriesIn.cls = RX4 ∧ yX4_directoriesIn.cls ≠ "java/lang/invoke/MethodHandle" ∧ yX4_directoriesIn.cls ≠ "java/lang/invoke/VarHandle" ∧ (parseMethodDescriptor yX4_directoriesIn.desc).map (fun d => d.parameters.length) = some 1 := by decide +kernel
def wsX2_groupBlocks : List Cond := .code yX2_groupBlocks cX2_groupBlocks 1 (some .int) :: gT
theorem hdX2_groupBlocks : yX2_groupBlocks.cls = RX2 ∧ yX2_groupBlocks.cls ≠ "java/lang/invoke/MethodHandle" ∧ yX2_groupBlocks.cls ≠ "java/lang/invoke/VarHandle" ∧ (parseMethodDescriptor yX2_groupBlocks.desc).map (fun d => d.parameters.length) = some 0 := by decide +kernel
def wsX0_many : List Cond := .code yX0_many cX0_many 2 (some .int) :: gT
theorem hdX0_many : yX0_many.cls = RX0 ∧ yX0_many.cls ≠ "java/lang/invoke/MethodHandle" ∧ yX0_many.cls ≠ "java/lang/invoke/VarHandle" ∧ (parseMethodDescriptor yX0_many.desc).map (fun d => d.parameters.length) = some 1 := by decide +kernel
def wsX3_free : List Cond := .code yX3_free cX3_free 1 (some .int) :: gT
theorem hdX3_free : yX3_free.cls = RX3 ∧ yX3_free.cls ≠ "java/lang/invoke/MethodHandle" ∧ yX3_free.cls ≠ "java/lang/invoke/VarHandle" ∧ (parseMethodDescriptor yX3_free.desc).map (fun d => d.parameters.length) = some 0 := by decide +kernel
def wsX10_cell : List Cond := .code yX10_cell cX10_cell 2 (some .int) :: gT
theorem hdX10_cell : yX10_cell.cls = RX10 ∧ yX10_cell.cls ≠ "java/lang/invoke/MethodHandle" ∧ yX10_cell.cls ≠ "java/lang/invoke/VarHandle" ∧ (parseMethodDescriptor yX10_cell.desc).map (fun d => d.parameters.length) = some 2 := by decide +kernel
def wsX10_format : List Cond := .codeWith yX10_format cX10_format 6 (some .int) [(0, 12, 15, 13)] :: gT
theorem hdX10_format : yX10_format.cls = RX10 ∧ yX10_format.cls ≠ "java/lang/invoke/MethodHandle" ∧ yX10_format.cls ≠ "java/lang/invoke/VarHandle" ∧ (parseMethodDescriptor yX10_format.desc).map (fun d => d.parameters.length) = some 5 := by decide +kernel
def wsX0_format : List Cond := .code yX0_format cX0_format 5 (some .int) :: gT
theorem hdX0_format : yX0_format.cls = RX0 ∧ yX0_format.cls ≠ "java/lang/invoke/MethodHandle" ∧ yX0_format.cls ≠ "java/lang/invoke/VarHandle" ∧ (parseMethodDescriptor yX0_format.desc).map (fun d => d.parameters.length) = some 3 := by decide +kernel
def wsX2_choose : List Cond := .code yX2_choose cX2_choose 7 (some .boolean) :: gT
theorem hdX2_choose : yX2_choose.cls = RX2 ∧ yX2_choose.cls ≠ "java/lang/invoke/MethodHandle" ∧ yX2_choose.cls ≠ "java/lang/invoke/VarHandle" ∧ (parseMethodDescriptor yX2_choose.desc).map (fun d => d.parameters.length) = some 2 := by decide +kernel
def wsX3_lay : List Cond := .code yX3_lay cX3_lay 5 none :: gT
theorem hdX3_lay : yX3_lay.cls = RX3 ∧ yX3_lay.cls ≠ "java/lang/invoke/MethodHandle" ∧ yX3_lay.cls ≠ "java/lang/invoke/VarHandle" ∧ (parseMethodDescriptor yX3_lay.desc).map (fun d => d.parameters.length) = some 0 := by decide +kernel
def wsX1_put : List Cond := .code yX1_put cX1_put 3 none :: gT
theorem hdX1_put : yX1_put.cls = RX1 ∧ yX1_put.cls ≠ "java/lang/invoke/MethodHandle" ∧ yX1_put.cls ≠ "java/lang/invoke/VarHandle" ∧ (parseMethodDescriptor yX1_put.desc).map (fun d => d.parameters.length) = some 2 := by decide +kernel
def wsX6_lay : List Cond := .code yX6_lay cX6_lay 5 none :: gT
theorem hdX6_lay : yX6_lay.cls = RX6 ∧ yX6_lay.cls ≠ "java/lang/invoke/MethodHandle" ∧ yX6_lay.cls ≠ "java/lang/invoke/VarHandle" ∧ (parseMethodDescriptor yX6_lay.desc).map (fun d => d.parameters.length) = some 2 := by decide +kernel
def wsX1_copy : List Cond := .code yX1_copy cX1_copy 4 none :: gT
theorem hdX1_copy : yX1_copy.cls = RX1 ∧ yX1_copy.cls ≠ "java/lang/invoke/MethodHandle" ∧ yX1_copy.cls ≠ "java/lang/invoke/VarHandle" ∧ (parseMethodDescriptor yX1_copy.desc).map (fun d => d.parameters.length) = some 3 := by decide +kernel
def wsX3_take : List Cond := .code yX3_take cX3_take 5 (some .int) :: gT
theorem hdX3_take : yX3_take.cls = RX3 ∧ yX3_take.cls ≠ "java/lang/invoke/MethodHandle" ∧ yX3_take.cls ≠ "java/lang/invoke/VarHandle" ∧ (parseMethodDescriptor yX3_take.desc).map (fun d => d.parameters.length) = some 0 := by decide +kernel
def wsX3_lowestClear : List Cond := .code yX3_lowestClear cX3_lowestClear 2 (some .int) :: gT
theorem hdX3_lowestClear : yX3_lowestClear.cls = RX3 ∧ yX3_lowestClear.cls ≠ "java/lang/invoke/MethodHandle" ∧ yX3_lowestClear.cls ≠ "java/lang/invoke/VarHandle" ∧ (parseMethodDescriptor yX3_lowestClear.desc).map (fun d => d.parameters.length) = some 1 := by decide +kernel
def wsX3_mark : List Cond := .code yX3_mark cX3_mark 11 none :: gT
theorem hdX3_mark : yX3_mark.cls = RX3 ∧ yX3_mark.cls ≠ "java/lang/invoke/MethodHandle" ∧ yX3_mark.cls ≠ "java/lang/invoke/VarHandle" ∧ (parseMethodDescriptor yX3_mark.desc).map (fun d => d.parameters.length) = some 2 := by decide +kernel
def wsX4_begin : List Cond := .code yX4_begin cX4_begin 4 none :: gT
theorem hdX4_begin : yX4_begin.cls = RX4 ∧ yX4_begin.cls ≠ "java/lang/invoke/MethodHandle" ∧ yX4_begin.cls ≠ "java/lang/invoke/VarHandle" ∧ (parseMethodDescriptor yX4_begin.desc).map (fun d => d.parameters.length) = some 2 := by decide +kernel
def wsX4_countDirectories : List Cond := .code yX4_countDirectories cX4_countDirectories 6 none :: gT
theorem hdX4_countDirectories : yX4_countDirectories.cls = RX4 ∧ yX4_countDirectories.cls ≠ "java/lang/invoke/MethodHandle" ∧ yX4_countDirectories.cls ≠ "java/lang/invoke/VarHandle" ∧ (parseMethodDescriptor yX4_countDirectories.desc).map (fun d => d.parameters.length) = some 2 := by decide +kernel
def wsX2_groupOfInode : List Cond := .code yX2_groupOfInode cX2_groupOfInode 2 (some .int) :: gT
theorem hdX2_groupOfInode : yX2_groupOfInode.cls = RX2 ∧ yX2_groupOfInode.cls ≠ "java/lang/invoke/MethodHandle" ∧ yX2_groupOfInode.cls ≠ "java/lang/invoke/VarHandle" ∧ (parseMethodDescriptor yX2_groupOfInode.desc).map (fun d => d.parameters.length) = some 1 := by decide +kernel
def wsX4_addDirectoryBlock : List Cond := .code yX4_addDirectoryBlock cX4_addDirectoryBlock 3 (some .int) :: gT
theorem hdX4_addDirectoryBlock : yX4_addDirectoryBlock.cls = RX4 ∧ yX4_addDirectoryBlock.cls ≠ "java/lang/invoke/MethodHandle" ∧ yX4_addDirectoryBlock.cls ≠ "java/lang/invoke/VarHandle" ∧ (parseMethodDescriptor yX4_addDirectoryBlock.desc).map (fun d => d.parameters.length) = some 1 := by decide +kernel
def wsX4_addBlock : List Cond := .code yX4_addBlock cX4_addBlock 4 none :: gT
theorem hdX4_addBlock : yX4_addBlock.cls = RX4 ∧ yX4_addBlock.cls ≠ "java/lang/invoke/MethodHandle" ∧ yX4_addBlock.cls ≠ "java/lang/invoke/VarHandle" ∧ (parseMethodDescriptor yX4_addBlock.desc).map (fun d => d.parameters.length) = some 2 := by decide +kernel
def wsX4_gain : List Cond := .code yX4_gain cX4_gain 4 none :: gT
theorem hdX4_gain : yX4_gain.cls = RX4 ∧ yX4_gain.cls ≠ "java/lang/invoke/MethodHandle" ∧ yX4_gain.cls ≠ "java/lang/invoke/VarHandle" ∧ (parseMethodDescriptor yX4_gain.desc).map (fun d => d.parameters.length) = some 2 := by decide +kernel
def wsX4_beginsRow : List Cond := .code yX4_beginsRow cX4_beginsRow 1 (some .boolean) :: gT
theorem hdX4_beginsRow : yX4_beginsRow.cls = RX4 ∧ yX4_beginsRow.cls ≠ "java/lang/invoke/MethodHandle" ∧ yX4_beginsRow.cls ≠ "java/lang/invoke/VarHandle" ∧ (parseMethodDescriptor yX4_beginsRow.desc).map (fun d => d.parameters.length) = some 1 := by decide +kernel
def wsX4_rowPointerAt : List Cond := .code yX4_rowPointerAt cX4_rowPointerAt 3 (some .int) :: gT
theorem hdX4_rowPointerAt : yX4_rowPointerAt.cls = RX4 ∧ yX4_rowPointerAt.cls ≠ "java/lang/invoke/MethodHandle" ∧ yX4_rowPointerAt.cls ≠ "java/lang/invoke/VarHandle" ∧ (parseMethodDescriptor yX4_rowPointerAt.desc).map (fun d => d.parameters.length) = some 2 := by decide +kernel
def wsX4_setSize : List Cond := .code yX4_setSize cX4_setSize 3 none :: gT
theorem hdX4_setSize : yX4_setSize.cls = RX4 ∧ yX4_setSize.cls ≠ "java/lang/invoke/MethodHandle" ∧ yX4_setSize.cls ≠ "java/lang/invoke/VarHandle" ∧ (parseMethodDescriptor yX4_setSize.desc).map (fun d => d.parameters.length) = some 2 := by decide +kernel
def wsX5_layDots : List Cond := .code yX5_layDots cX5_layDots 6 none :: gT
theorem hdX5_layDots : yX5_layDots.cls = RX5 ∧ yX5_layDots.cls ≠ "java/lang/invoke/MethodHandle" ∧ yX5_layDots.cls ≠ "java/lang/invoke/VarHandle" ∧ (parseMethodDescriptor yX5_layDots.desc).map (fun d => d.parameters.length) = some 3 := by decide +kernel
def wsX10_items : List Cond := .codeWith yX10_items cX10_items 3 (some .int) [(0, 8, 11, 19)] :: gT
theorem hdX10_items : yX10_items.cls = RX10 ∧ yX10_items.cls ≠ "java/lang/invoke/MethodHandle" ∧ yX10_items.cls ≠ "java/lang/invoke/VarHandle" ∧ (parseMethodDescriptor yX10_items.desc).map (fun d => d.parameters.length) = some 2 := by decide +kernel
def wsX0_items : List Cond := .code yX0_items cX0_items 1 (some .int) :: gT
theorem hdX0_items : yX0_items.cls = RX0 ∧ yX0_items.cls ≠ "java/lang/invoke/MethodHandle" ∧ yX0_items.cls ≠ "java/lang/invoke/VarHandle" ∧ (parseMethodDescriptor yX0_items.desc).map (fun d => d.parameters.length) = some 0 := by decide +kernel
def wsX0_needVolume : List Cond := .code yX0_needVolume cX0_needVolume 1 none :: gT
theorem hdX0_needVolume : yX0_needVolume.cls = RX0 ∧ yX0_needVolume.cls ≠ "java/lang/invoke/MethodHandle" ∧ yX0_needVolume.cls ≠ "java/lang/invoke/VarHandle" ∧ (parseMethodDescriptor yX0_needVolume.desc).map (fun d => d.parameters.length) = some 0 := by decide +kernel
def wsX5_itemCount : List Cond := .code yX5_itemCount cX5_itemCount 3 (some .int) :: gT
theorem hdX5_itemCount : yX5_itemCount.cls = RX5 ∧ yX5_itemCount.cls ≠ "java/lang/invoke/MethodHandle" ∧ yX5_itemCount.cls ≠ "java/lang/invoke/VarHandle" ∧ (parseMethodDescriptor yX5_itemCount.desc).map (fun d => d.parameters.length) = some 0 := by decide +kernel
def wsX10_letter : List Cond := .codeWith yX10_letter cX10_letter 5 (some .int) [(0, 10, 13, 19), (0, 10, 17, 25)] :: gT
theorem hdX10_letter : yX10_letter.cls = RX10 ∧ yX10_letter.cls ≠ "java/lang/invoke/MethodHandle" ∧ yX10_letter.cls ≠ "java/lang/invoke/VarHandle" ∧ (parseMethodDescriptor yX10_letter.desc).map (fun d => d.parameters.length) = some 4 := by decide +kernel
def wsX0_letter : List Cond := .code yX0_letter cX0_letter 3 (some .int) :: gT
theorem hdX0_letter : yX0_letter.cls = RX0 ∧ yX0_letter.cls ≠ "java/lang/invoke/MethodHandle" ∧ yX0_letter.cls ≠ "java/lang/invoke/VarHandle" ∧ (parseMethodDescriptor yX0_letter.desc).map (fun d => d.parameters.length) = some 2 := by decide +kernel
def wsX0_itemHere : List Cond := .code yX0_itemHere cX0_itemHere 3 (some .int) :: gT
theorem hdX0_itemHere : yX0_itemHere.cls = RX0 ∧ yX0_itemHere.cls ≠ "java/lang/invoke/MethodHandle" ∧ yX0_itemHere.cls ≠ "java/lang/invoke/VarHandle" ∧ (parseMethodDescriptor yX0_itemHere.desc).map (fun d => d.parameters.length) = some 1 := by decide +kernel
def wsX5_placeOf : List Cond := .code yX5_placeOf cX5_placeOf 4 (some .int) :: gT
theorem hdX5_placeOf : yX5_placeOf.cls = RX5 ∧ yX5_placeOf.cls ≠ "java/lang/invoke/MethodHandle" ∧ yX5_placeOf.cls ≠ "java/lang/invoke/VarHandle" ∧ (parseMethodDescriptor yX5_placeOf.desc).map (fun d => d.parameters.length) = some 1 := by decide +kernel
def wsX10_about : List Cond := .codeWith yX10_about cX10_about 5 (some .int) [(0, 9, 12, 19), (0, 9, 16, 25), (0, 9, 20, 13)] :: gT
theorem hdX10_about : yX10_about.cls = RX10 ∧ yX10_about.cls ≠ "java/lang/invoke/MethodHandle" ∧ yX10_about.cls ≠ "java/lang/invoke/VarHandle" ∧ (parseMethodDescriptor yX10_about.desc).map (fun d => d.parameters.length) = some 4 := by decide +kernel
def wsX0_about : List Cond := .code yX0_about cX0_about 4 (some .long) :: gT
theorem hdX0_about : yX0_about.cls = RX0 ∧ yX0_about.cls ≠ "java/lang/invoke/MethodHandle" ∧ yX0_about.cls ≠ "java/lang/invoke/VarHandle" ∧ (parseMethodDescriptor yX0_about.desc).map (fun d => d.parameters.length) = some 2 := by decide +kernel
def wsX4_time : List Cond := .code yX4_time cX4_time 3 (some .long) :: gT
theorem hdX4_time : yX4_time.cls = RX4 ∧ yX4_time.cls ≠ "java/lang/invoke/MethodHandle" ∧ yX4_time.cls ≠ "java/lang/invoke/VarHandle" ∧ (parseMethodDescriptor yX4_time.desc).map (fun d => d.parameters.length) = some 2 := by decide +kernel
def wsX10_content : List Cond := .codeWith yX10_content cX10_content 5 (some .int) [(0, 10, 13, 19), (0, 10, 17, 25)] :: gT
theorem hdX10_content : yX10_content.cls = RX10 ∧ yX10_content.cls ≠ "java/lang/invoke/MethodHandle" ∧ yX10_content.cls ≠ "java/lang/invoke/VarHandle" ∧ (parseMethodDescriptor yX10_content.desc).map (fun d => d.parameters.length) = some 4 := by decide +kernel
def wsX0_content : List Cond := .code yX0_content cX0_content 4 (some .int) :: gT
theorem hdX0_content : yX0_content.cls = RX0 ∧ yX0_content.cls ≠ "java/lang/invoke/MethodHandle" ∧ yX0_content.cls ≠ "java/lang/invoke/VarHandle" ∧ (parseMethodDescriptor yX0_content.desc).map (fun d => d.parameters.length) = some 2 := by decide +kernel
def wsX10_enter : List Cond := .codeWith yX10_enter cX10_enter 4 (some .int) [(0, 9, 12, 19), (0, 9, 15, 25), (0, 9, 18, 13)] :: gT
theorem hdX10_enter : yX10_enter.cls = RX10 ∧ yX10_enter.cls ≠ "java/lang/invoke/MethodHandle" ∧ yX10_enter.cls ≠ "java/lang/invoke/VarHandle" ∧ (parseMethodDescriptor yX10_enter.desc).map (fun d => d.parameters.length) = some 3 := by decide +kernel
def wsX0_enter : List Cond := .code yX0_enter cX0_enter 3 (some .int) :: gT
theorem hdX0_enter : yX0_enter.cls = RX0 ∧ yX0_enter.cls ≠ "java/lang/invoke/MethodHandle" ∧ yX0_enter.cls ≠ "java/lang/invoke/VarHandle" ∧ (parseMethodDescriptor yX0_enter.desc).map (fun d => d.parameters.length) = some 1 := by decide +kernel
def wsX10_up : List Cond := .codeWith yX10_up cX10_up 3 (some .int) [(0, 15, 18, 19)] :: gT
theorem hdX10_up : yX10_up.cls = RX10 ∧ yX10_up.cls ≠ "java/lang/invoke/MethodHandle" ∧ yX10_up.cls ≠ "java/lang/invoke/VarHandle" ∧ (parseMethodDescriptor yX10_up.desc).map (fun d => d.parameters.length) = some 2 := by decide +kernel
def wsX0_up : List Cond := .code yX0_up cX0_up 1 (some .boolean) :: gT
theorem hdX0_up : yX0_up.cls = RX0 ∧ yX0_up.cls ≠ "java/lang/invoke/MethodHandle" ∧ yX0_up.cls ≠ "java/lang/invoke/VarHandle" ∧ (parseMethodDescriptor yX0_up.desc).map (fun d => d.parameters.length) = some 0 := by decide +kernel
def wsX10_make : List Cond := .codeWith yX10_make cX10_make 4 (some .int) [(0, 9, 12, 19), (0, 9, 15, 13), (0, 9, 18, 46)] :: gT
theorem hdX10_make : yX10_make.cls = RX10 ∧ yX10_make.cls ≠ "java/lang/invoke/MethodHandle" ∧ yX10_make.cls ≠ "java/lang/invoke/VarHandle" ∧ (parseMethodDescriptor yX10_make.desc).map (fun d => d.parameters.length) = some 3 := by decide +kernel
def wsX0_make : List Cond := .code yX0_make cX0_make 7 (some .int) :: gT
theorem hdX0_make : yX0_make.cls = RX0 ∧ yX0_make.cls ≠ "java/lang/invoke/MethodHandle" ∧ yX0_make.cls ≠ "java/lang/invoke/VarHandle" ∧ (parseMethodDescriptor yX0_make.desc).map (fun d => d.parameters.length) = some 1 := by decide +kernel
def wsX8_drain : List Cond := .code yX8_drain cX8_drain 2 (some .int) :: gT
theorem hdX8_drain : yX8_drain.cls = RX8 ∧ yX8_drain.cls ≠ "java/lang/invoke/MethodHandle" ∧ yX8_drain.cls ≠ "java/lang/invoke/VarHandle" ∧ (parseMethodDescriptor yX8_drain.desc).map (fun d => d.parameters.length) = some 0 := by decide +kernel
def wsX8_isName : List Cond := .code yX8_isName cX8_isName 3 (some .boolean) :: gT
theorem hdX8_isName : yX8_isName.cls = RX8 ∧ yX8_isName.cls ≠ "java/lang/invoke/MethodHandle" ∧ yX8_isName.cls ≠ "java/lang/invoke/VarHandle" ∧ (parseMethodDescriptor yX8_isName.desc).map (fun d => d.parameters.length) = some 1 := by decide +kernel
def wsX8_valueAt : List Cond := .code yX8_valueAt cX8_valueAt 2 (some .int) :: gT
theorem hdX8_valueAt : yX8_valueAt.cls = RX8 ∧ yX8_valueAt.cls ≠ "java/lang/invoke/MethodHandle" ∧ yX8_valueAt.cls ≠ "java/lang/invoke/VarHandle" ∧ (parseMethodDescriptor yX8_valueAt.desc).map (fun d => d.parameters.length) = some 1 := by decide +kernel
def wsX5_has : List Cond := .code yX5_has cX5_has 4 (some .boolean) :: gT
theorem hdX5_has : yX5_has.cls = RX5 ∧ yX5_has.cls ≠ "java/lang/invoke/MethodHandle" ∧ yX5_has.cls ≠ "java/lang/invoke/VarHandle" ∧ (parseMethodDescriptor yX5_has.desc).map (fun d => d.parameters.length) = some 2 := by decide +kernel
def wsX5_isNamed : List Cond := .code yX5_isNamed cX5_isNamed 5 (some .boolean) :: gT
theorem hdX5_isNamed : yX5_isNamed.cls = RX5 ∧ yX5_isNamed.cls ≠ "java/lang/invoke/MethodHandle" ∧ yX5_isNamed.cls ≠ "java/lang/invoke/VarHandle" ∧ (parseMethodDescriptor yX5_isNamed.desc).map (fun d => d.parameters.length) = some 3 := by decide +kernel
def wsX11_valueAt : List Cond := .code yX11_valueAt cX11_valueAt 2 (some .int) :: gT
theorem hdX11_valueAt : yX11_valueAt.cls = RX11 ∧ yX11_valueAt.cls ≠ "java/lang/invoke/MethodHandle" ∧ yX11_valueAt.cls ≠ "java/lang/invoke/VarHandle" ∧ (parseMethodDescriptor yX11_valueAt.desc).map (fun d => d.parameters.length) = some 1 := by decide +kernel
def wsX5_roomFor : List Cond := .code yX5_roomFor cX5_roomFor 4 (some .int) :: gT
theorem hdX5_roomFor : yX5_roomFor.cls = RX5 ∧ yX5_roomFor.cls ≠ "java/lang/invoke/MethodHandle" ∧ yX5_roomFor.cls ≠ "java/lang/invoke/VarHandle" ∧ (parseMethodDescriptor yX5_roomFor.desc).map (fun d => d.parameters.length) = some 1 := by decide +kernel
def wsX4_costOf : List Cond := .code yX4_costOf cX4_costOf 4 (some .int) :: gT
theorem hdX4_costOf : yX4_costOf.cls = RX4 ∧ yX4_costOf.cls ≠ "java/lang/invoke/MethodHandle" ∧ yX4_costOf.cls ≠ "java/lang/invoke/VarHandle" ∧ (parseMethodDescriptor yX4_costOf.desc).map (fun d => d.parameters.length) = some 2 := by decide +kernel
def wsX5_open : List Cond := .code yX5_open cX5_open 2 (some .int) :: gT
theorem hdX5_open : yX5_open.cls = RX5 ∧ yX5_open.cls ≠ "java/lang/invoke/MethodHandle" ∧ yX5_open.cls ≠ "java/lang/invoke/VarHandle" ∧ (parseMethodDescriptor yX5_open.desc).map (fun d => d.parameters.length) = some 1 := by decide +kernel
def wsX5_split : List Cond := .code yX5_split cX5_split 5 (some .int) :: gT
theorem hdX5_split : yX5_split.cls = RX5 ∧ yX5_split.cls ≠ "java/lang/invoke/MethodHandle" ∧ yX5_split.cls ≠ "java/lang/invoke/VarHandle" ∧ (parseMethodDescriptor yX5_split.desc).map (fun d => d.parameters.length) = some 1 := by decide +kernel
def wsX5_fillEntry : List Cond := .code yX5_fillEntry cX5_fillEntry 8 none :: gT
theorem hdX5_fillEntry : yX5_fillEntry.cls = RX5 ∧ yX5_fillEntry.cls ≠ "java/lang/invoke/MethodHandle" ∧ yX5_fillEntry.cls ≠ "java/lang/invoke/VarHandle" ∧ (parseMethodDescriptor yX5_fillEntry.desc).map (fun d => d.parameters.length) = some 5 := by decide +kernel
def wsX4_addLinks : List Cond := .code yX4_addLinks cX4_addLinks 4 none :: gT
theorem hdX4_addLinks : yX4_addLinks.cls = RX4 ∧ yX4_addLinks.cls ≠ "java/lang/invoke/MethodHandle" ∧ yX4_addLinks.cls ≠ "java/lang/invoke/VarHandle" ∧ (parseMethodDescriptor yX4_addLinks.desc).map (fun d => d.parameters.length) = some 2 := by decide +kernel
def wsX5_numberOf : List Cond := .code yX5_numberOf cX5_numberOf 4 (some .int) :: gT
theorem hdX5_numberOf : yX5_numberOf.cls = RX5 ∧ yX5_numberOf.cls ≠ "java/lang/invoke/MethodHandle" ∧ yX5_numberOf.cls ≠ "java/lang/invoke/VarHandle" ∧ (parseMethodDescriptor yX5_numberOf.desc).map (fun d => d.parameters.length) = some 1 := by decide +kernel
def wsX10_write : List Cond := .codeWith yX10_write cX10_write 4 (some .int) [(0, 9, 12, 19), (0, 9, 15, 25), (0, 9, 18, 13), (0, 9, 21, 46)] :: gT
theorem hdX10_write : yX10_write.cls = RX10 ∧ yX10_write.cls ≠ "java/lang/invoke/MethodHandle" ∧ yX10_write.cls ≠ "java/lang/invoke/VarHandle" ∧ (parseMethodDescriptor yX10_write.desc).map (fun d => d.parameters.length) = some 3 := by decide +kernel
def wsX0_write : List Cond := .code yX0_write cX0_write 4 (some .int) :: gT
theorem hdX0_write : yX0_write.cls = RX0 ∧ yX0_write.cls ≠ "java/lang/invoke/MethodHandle" ∧ yX0_write.cls ≠ "java/lang/invoke/VarHandle" ∧ (parseMethodDescriptor yX0_write.desc).map (fun d => d.parameters.length) = some 1 := by decide +kernel
def wsX0_fileAt : List Cond := .code yX0_fileAt cX0_fileAt 3 (some .int) :: gT
theorem hdX0_fileAt : yX0_fileAt.cls = RX0 ∧ yX0_fileAt.cls ≠ "java/lang/invoke/MethodHandle" ∧ yX0_fileAt.cls ≠ "java/lang/invoke/VarHandle" ∧ (parseMethodDescriptor yX0_fileAt.desc).map (fun d => d.parameters.length) = some 1 := by decide +kernel
def wsX0_needBlocks : List Cond := .code yX0_needBlocks cX0_needBlocks 2 none :: gT
theorem hdX0_needBlocks : yX0_needBlocks.cls = RX0 ∧ yX0_needBlocks.cls ≠ "java/lang/invoke/MethodHandle" ∧ yX0_needBlocks.cls ≠ "java/lang/invoke/VarHandle" ∧ (parseMethodDescriptor yX0_needBlocks.desc).map (fun d => d.parameters.length) = some 1 := by decide +kernel
def wsX4_append : List Cond := .code yX4_append cX4_append 9 (some .int) :: gT
theorem hdX4_append : yX4_append.cls = RX4 ∧ yX4_append.cls ≠ "java/lang/invoke/MethodHandle" ∧ yX4_append.cls ≠ "java/lang/invoke/VarHandle" ∧ (parseMethodDescriptor yX4_append.desc).map (fun d => d.parameters.length) = some 3 := by decide +kernel
def wsX10_grow : List Cond := .codeWith yX10_grow cX10_grow 6 (some .int) [(0, 12, 15, 19), (0, 12, 19, 25), (0, 12, 23, 13), (0, 12, 27, 46)] :: gT
theorem hdX10_grow : yX10_grow.cls = RX10 ∧ yX10_grow.cls ≠ "java/lang/invoke/MethodHandle" ∧ yX10_grow.cls ≠ "java/lang/invoke/VarHandle" ∧ (parseMethodDescriptor yX10_grow.desc).map (fun d => d.parameters.length) = some 5 := by decide +kernel
def wsX0_grow : List Cond := .code yX0_grow cX0_grow 5 (some .int) :: gT
theorem hdX0_grow : yX0_grow.cls = RX0 ∧ yX0_grow.cls ≠ "java/lang/invoke/MethodHandle" ∧ yX0_grow.cls ≠ "java/lang/invoke/VarHandle" ∧ (parseMethodDescriptor yX0_grow.desc).map (fun d => d.parameters.length) = some 3 := by decide +kernel
def wsX11_init : List Cond := .code yX11_init cX11_init 2 none :: gT
theorem hdX11_init : yX11_init.cls = RX11 ∧ yX11_init.cls ≠ "java/lang/invoke/MethodHandle" ∧ yX11_init.cls ≠ "java/lang/invoke/VarHandle" ∧ (parseMethodDescriptor yX11_init.desc).map (fun d => d.parameters.length) = some 1 := by decide +kernel
def wsX10_cut : List Cond := .codeWith yX10_cut cX10_cut 5 (some .int) [(0, 10, 13, 19), (0, 10, 17, 25), (0, 10, 21, 13)] :: gT
theorem hdX10_cut : yX10_cut.cls = RX10 ∧ yX10_cut.cls ≠ "java/lang/invoke/MethodHandle" ∧ yX10_cut.cls ≠ "java/lang/invoke/VarHandle" ∧ (parseMethodDescriptor yX10_cut.desc).map (fun d => d.parameters.length) = some 4 := by decide +kernel
def wsX0_cut : List Cond := .code yX0_cut cX0_cut 4 (some .int) :: gT
theorem hdX0_cut : yX0_cut.cls = RX0 ∧ yX0_cut.cls ≠ "java/lang/invoke/MethodHandle" ∧ yX0_cut.cls ≠ "java/lang/invoke/VarHandle" ∧ (parseMethodDescriptor yX0_cut.desc).map (fun d => d.parameters.length) = some 2 := by decide +kernel
def wsX4_shorten : List Cond := .code yX4_shorten cX4_shorten 6 (some .int) :: gT
theorem hdX4_shorten : yX4_shorten.cls = RX4 ∧ yX4_shorten.cls ≠ "java/lang/invoke/MethodHandle" ∧ yX4_shorten.cls ≠ "java/lang/invoke/VarHandle" ∧ (parseMethodDescriptor yX4_shorten.desc).map (fun d => d.parameters.length) = some 2 := by decide +kernel
def wsX4_dropBlock : List Cond := .code yX4_dropBlock cX4_dropBlock 4 none :: gT
theorem hdX4_dropBlock : yX4_dropBlock.cls = RX4 ∧ yX4_dropBlock.cls ≠ "java/lang/invoke/MethodHandle" ∧ yX4_dropBlock.cls ≠ "java/lang/invoke/VarHandle" ∧ (parseMethodDescriptor yX4_dropBlock.desc).map (fun d => d.parameters.length) = some 2 := by decide +kernel
def wsX4_lose : List Cond := .code yX4_lose cX4_lose 3 none :: gT
theorem hdX4_lose : yX4_lose.cls = RX4 ∧ yX4_lose.cls ≠ "java/lang/invoke/MethodHandle" ∧ yX4_lose.cls ≠ "java/lang/invoke/VarHandle" ∧ (parseMethodDescriptor yX4_lose.desc).map (fun d => d.parameters.length) = some 2 := by decide +kernel
def wsX3_giveBack : List Cond := .code yX3_giveBack cX3_giveBack 2 none :: gT
theorem hdX3_giveBack : yX3_giveBack.cls = RX3 ∧ yX3_giveBack.cls ≠ "java/lang/invoke/MethodHandle" ∧ yX3_giveBack.cls ≠ "java/lang/invoke/VarHandle" ∧ (parseMethodDescriptor yX3_giveBack.desc).map (fun d => d.parameters.length) = some 1 := by decide +kernel
def wsX10_remove : List Cond := .codeWith yX10_remove cX10_remove 3 (some .int) [(0, 5, 8, 19), (0, 5, 11, 25), (0, 5, 14, 13)] :: gT
theorem hdX10_remove : yX10_remove.cls = RX10 ∧ yX10_remove.cls ≠ "java/lang/invoke/MethodHandle" ∧ yX10_remove.cls ≠ "java/lang/invoke/VarHandle" ∧ (parseMethodDescriptor yX10_remove.desc).map (fun d => d.parameters.length) = some 2 := by decide +kernel
def wsX0_remove : List Cond := .code yX0_remove cX0_remove 5 none :: gT
theorem hdX0_remove : yX0_remove.cls = RX0 ∧ yX0_remove.cls ≠ "java/lang/invoke/MethodHandle" ∧ yX0_remove.cls ≠ "java/lang/invoke/VarHandle" ∧ (parseMethodDescriptor yX0_remove.desc).map (fun d => d.parameters.length) = some 1 := by decide +kernel
def wsX5_drop : List Cond := .code yX5_drop cX5_drop 4 none :: gT
theorem hdX5_drop : yX5_drop.cls = RX5 ∧ yX5_drop.cls ≠ "java/lang/invoke/MethodHandle" ∧ yX5_drop.cls ≠ "java/lang/invoke/VarHandle" ∧ (parseMethodDescriptor yX5_drop.desc).map (fun d => d.parameters.length) = some 1 := by decide +kernel
def wsX4_erase : List Cond := .code yX4_erase cX4_erase 3 none :: gT
theorem hdX4_erase : yX4_erase.cls = RX4 ∧ yX4_erase.cls ≠ "java/lang/invoke/MethodHandle" ∧ yX4_erase.cls ≠ "java/lang/invoke/VarHandle" ∧ (parseMethodDescriptor yX4_erase.desc).map (fun d => d.parameters.length) = some 1 := by decide +kernel
def wsX10_stamp : List Cond := .codeWith yX10_stamp cX10_stamp 6 (some .int) [(0, 7, 10, 19), (0, 7, 14, 25), (0, 7, 18, 13)] :: gT
theorem hdX10_stamp : yX10_stamp.cls = RX10 ∧ yX10_stamp.cls ≠ "java/lang/invoke/MethodHandle" ∧ yX10_stamp.cls ≠ "java/lang/invoke/VarHandle" ∧ (parseMethodDescriptor yX10_stamp.desc).map (fun d => d.parameters.length) = some 4 := by decide +kernel
def wsX0_stamp : List Cond := .code yX0_stamp cX0_stamp 6 none :: gT
theorem hdX0_stamp : yX0_stamp.cls = RX0 ∧ yX0_stamp.cls ≠ "java/lang/invoke/MethodHandle" ∧ yX0_stamp.cls ≠ "java/lang/invoke/VarHandle" ∧ (parseMethodDescriptor yX0_stamp.desc).map (fun d => d.parameters.length) = some 3 := by decide +kernel
def wsX4_setTime : List Cond := .code yX4_setTime cX4_setTime 5 none :: gT
theorem hdX4_setTime : yX4_setTime.cls = RX4 ∧ yX4_setTime.cls ≠ "java/lang/invoke/MethodHandle" ∧ yX4_setTime.cls ≠ "java/lang/invoke/VarHandle" ∧ (parseMethodDescriptor yX4_setTime.desc).map (fun d => d.parameters.length) = some 3 := by decide +kernel
def wsX12_init : List Cond := .code yX12_init cX12_init 2 none :: gT
theorem hdX12_init : yX12_init.cls = RX12 ∧ yX12_init.cls ≠ "java/lang/invoke/MethodHandle" ∧ yX12_init.cls ≠ "java/lang/invoke/VarHandle" ∧ (parseMethodDescriptor yX12_init.desc).map (fun d => d.parameters.length) = some 1 := by decide +kernel
def wsX12_thrown : List Cond := .code yX12_thrown cX12_thrown 1 (some .int) :: gT
theorem hdX12_thrown : yX12_thrown.cls = RX12 ∧ yX12_thrown.cls ≠ "java/lang/invoke/MethodHandle" ∧ yX12_thrown.cls ≠ "java/lang/invoke/VarHandle" ∧ (parseMethodDescriptor yX12_thrown.desc).map (fun d => d.parameters.length) = some 0 := by decide +kernel
def wsX12_feed : List Cond := .code yX12_feed cX12_feed 8 none :: gT
theorem hdX12_feed : yX12_feed.cls = RX12 ∧ yX12_feed.cls ≠ "java/lang/invoke/MethodHandle" ∧ yX12_feed.cls ≠ "java/lang/invoke/VarHandle" ∧ (parseMethodDescriptor yX12_feed.desc).map (fun d => d.parameters.length) = some 5 := by decide +kernel
def wsX12_end : List Cond := .code yX12_end cX12_end 3 (some .int) :: gT
theorem hdX12_end : yX12_end.cls = RX12 ∧ yX12_end.cls ≠ "java/lang/invoke/MethodHandle" ∧ yX12_end.cls ≠ "java/lang/invoke/VarHandle" ∧ (parseMethodDescriptor yX12_end.desc).map (fun d => d.parameters.length) = some 1 := by decide +kernel
def wsX12_format : List Cond := .code yX12_format cX12_format 8 (some .int) :: gT
theorem hdX12_format : yX12_format.cls = RX12 ∧ yX12_format.cls ≠ "java/lang/invoke/MethodHandle" ∧ yX12_format.cls ≠ "java/lang/invoke/VarHandle" ∧ (parseMethodDescriptor yX12_format.desc).map (fun d => d.parameters.length) = some 3 := by decide +kernel
def wsX12_parts : List Cond := .code yX12_parts cX12_parts 2 (some .int) :: gT
theorem hdX12_parts : yX12_parts.cls = RX12 ∧ yX12_parts.cls ≠ "java/lang/invoke/MethodHandle" ∧ yX12_parts.cls ≠ "java/lang/invoke/VarHandle" ∧ (parseMethodDescriptor yX12_parts.desc).map (fun d => d.parameters.length) = some 2 := by decide +kernel
def wsX12_isFixed : List Cond := .code yX12_isFixed cX12_isFixed 2 (some .boolean) :: gT
theorem hdX12_isFixed : yX12_isFixed.cls = RX12 ∧ yX12_isFixed.cls ≠ "java/lang/invoke/MethodHandle" ∧ yX12_isFixed.cls ≠ "java/lang/invoke/VarHandle" ∧ (parseMethodDescriptor yX12_isFixed.desc).map (fun d => d.parameters.length) = some 1 := by decide +kernel
def wsX12_clear : List Cond := .code yX12_clear cX12_clear 3 none :: gT
theorem hdX12_clear : yX12_clear.cls = RX12 ∧ yX12_clear.cls ≠ "java/lang/invoke/MethodHandle" ∧ yX12_clear.cls ≠ "java/lang/invoke/VarHandle" ∧ (parseMethodDescriptor yX12_clear.desc).map (fun d => d.parameters.length) = some 1 := by decide +kernel
def wsX12_folder : List Cond := .code yX12_folder cX12_folder 5 none :: gT
theorem hdX12_folder : yX12_folder.cls = RX12 ∧ yX12_folder.cls ≠ "java/lang/invoke/MethodHandle" ∧ yX12_folder.cls ≠ "java/lang/invoke/VarHandle" ∧ (parseMethodDescriptor yX12_folder.desc).map (fun d => d.parameters.length) = some 1 := by decide +kernel
def wsX12_gain : List Cond := .code yX12_gain cX12_gain 5 none :: gT
theorem hdX12_gain : yX12_gain.cls = RX12 ∧ yX12_gain.cls ≠ "java/lang/invoke/MethodHandle" ∧ yX12_gain.cls ≠ "java/lang/invoke/VarHandle" ∧ (parseMethodDescriptor yX12_gain.desc).map (fun d => d.parameters.length) = some 1 := by decide +kernel
def wsX12_take : List Cond := .code yX12_take cX12_take 3 (some .int) :: gT
theorem hdX12_take : yX12_take.cls = RX12 ∧ yX12_take.cls ≠ "java/lang/invoke/MethodHandle" ∧ yX12_take.cls ≠ "java/lang/invoke/VarHandle" ∧ (parseMethodDescriptor yX12_take.desc).map (fun d => d.parameters.length) = some 0 := by decide +kernel
def wsX12_entry : List Cond := .code yX12_entry cX12_entry 7 none :: gT
theorem hdX12_entry : yX12_entry.cls = RX12 ∧ yX12_entry.cls ≠ "java/lang/invoke/MethodHandle" ∧ yX12_entry.cls ≠ "java/lang/invoke/VarHandle" ∧ (parseMethodDescriptor yX12_entry.desc).map (fun d => d.parameters.length) = some 4 := by decide +kernel
def wsX12_set : List Cond := .code yX12_set cX12_set 5 none :: gT
theorem hdX12_set : yX12_set.cls = RX12 ∧ yX12_set.cls ≠ "java/lang/invoke/MethodHandle" ∧ yX12_set.cls ≠ "java/lang/invoke/VarHandle" ∧ (parseMethodDescriptor yX12_set.desc).map (fun d => d.parameters.length) = some 3 := by decide +kernel
def wsX12_freeBlocks : List Cond := .code yX12_freeBlocks cX12_freeBlocks 3 (some .int) :: gT
theorem hdX12_freeBlocks : yX12_freeBlocks.cls = RX12 ∧ yX12_freeBlocks.cls ≠ "java/lang/invoke/MethodHandle" ∧ yX12_freeBlocks.cls ≠ "java/lang/invoke/VarHandle" ∧ (parseMethodDescriptor yX12_freeBlocks.desc).map (fun d => d.parameters.length) = some 0 := by decide +kernel
def wsX12_byteAt : List Cond := .code yX12_byteAt cX12_byteAt 2 (some .int) :: gT
theorem hdX12_byteAt : yX12_byteAt.cls = RX12 ∧ yX12_byteAt.cls ≠ "java/lang/invoke/MethodHandle" ∧ yX12_byteAt.cls ≠ "java/lang/invoke/VarHandle" ∧ (parseMethodDescriptor yX12_byteAt.desc).map (fun d => d.parameters.length) = some 1 := by decide +kernel
def wsX12_show : List Cond := .code yX12_show cX12_show 2 none :: gT
theorem hdX12_show : yX12_show.cls = RX12 ∧ yX12_show.cls ≠ "java/lang/invoke/MethodHandle" ∧ yX12_show.cls ≠ "java/lang/invoke/VarHandle" ∧ (parseMethodDescriptor yX12_show.desc).map (fun d => d.parameters.length) = some 0 := by decide +kernel
def wsX12_showGroup : List Cond := .code yX12_showGroup cX12_showGroup 9 none :: gT
theorem hdX12_showGroup : yX12_showGroup.cls = RX12 ∧ yX12_showGroup.cls ≠ "java/lang/invoke/MethodHandle" ∧ yX12_showGroup.cls ≠ "java/lang/invoke/VarHandle" ∧ (parseMethodDescriptor yX12_showGroup.desc).map (fun d => d.parameters.length) = some 1 := by decide +kernel
def wsX12_begin : List Cond := .code yX12_begin cX12_begin 2 (some .int) :: gT
theorem hdX12_begin : yX12_begin.cls = RX12 ∧ yX12_begin.cls ≠ "java/lang/invoke/MethodHandle" ∧ yX12_begin.cls ≠ "java/lang/invoke/VarHandle" ∧ (parseMethodDescriptor yX12_begin.desc).map (fun d => d.parameters.length) = some 1 := by decide +kernel
def wsX12_room : List Cond := .code yX12_room cX12_room 2 (some .int) :: gT
theorem hdX12_room : yX12_room.cls = RX12 ∧ yX12_room.cls ≠ "java/lang/invoke/MethodHandle" ∧ yX12_room.cls ≠ "java/lang/invoke/VarHandle" ∧ (parseMethodDescriptor yX12_room.desc).map (fun d => d.parameters.length) = some 1 := by decide +kernel
def wsX12_put : List Cond := .code yX12_put cX12_put 6 none :: gT
theorem hdX12_put : yX12_put.cls = RX12 ∧ yX12_put.cls ≠ "java/lang/invoke/MethodHandle" ∧ yX12_put.cls ≠ "java/lang/invoke/VarHandle" ∧ (parseMethodDescriptor yX12_put.desc).map (fun d => d.parameters.length) = some 3 := by decide +kernel
def wsX12_freeInodes : List Cond := .code yX12_freeInodes cX12_freeInodes 3 (some .int) :: gT
theorem hdX12_freeInodes : yX12_freeInodes.cls = RX12 ∧ yX12_freeInodes.cls ≠ "java/lang/invoke/MethodHandle" ∧ yX12_freeInodes.cls ≠ "java/lang/invoke/VarHandle" ∧ (parseMethodDescriptor yX12_freeInodes.desc).map (fun d => d.parameters.length) = some 0 := by decide +kernel
def wsX12_showInode : List Cond := .code yX12_showInode cX12_showInode 7 none :: gT
theorem hdX12_showInode : yX12_showInode.cls = RX12 ∧ yX12_showInode.cls ≠ "java/lang/invoke/MethodHandle" ∧ yX12_showInode.cls ≠ "java/lang/invoke/VarHandle" ∧ (parseMethodDescriptor yX12_showInode.desc).map (fun d => d.parameters.length) = some 1 := by decide +kernel
def wsX12_inodeAt : List Cond := .code yX12_inodeAt cX12_inodeAt 2 (some .int) :: gT
theorem hdX12_inodeAt : yX12_inodeAt.cls = RX12 ∧ yX12_inodeAt.cls ≠ "java/lang/invoke/MethodHandle" ∧ yX12_inodeAt.cls ≠ "java/lang/invoke/VarHandle" ∧ (parseMethodDescriptor yX12_inodeAt.desc).map (fun d => d.parameters.length) = some 1 := by decide +kernel
def wsX12_all : List Cond := .code yX12_all cX12_all 1 (some .int) :: gT
theorem hdX12_all : yX12_all.cls = RX12 ∧ yX12_all.cls ≠ "java/lang/invoke/MethodHandle" ∧ yX12_all.cls ≠ "java/lang/invoke/VarHandle" ∧ (parseMethodDescriptor yX12_all.desc).map (fun d => d.parameters.length) = some 1 := by decide +kernel
def wsX12_fault : List Cond := .code yX12_fault cX12_fault 1 (some .int) :: gT
theorem hdX12_fault : yX12_fault.cls = RX12 ∧ yX12_fault.cls ≠ "java/lang/invoke/MethodHandle" ∧ yX12_fault.cls ≠ "java/lang/invoke/VarHandle" ∧ (parseMethodDescriptor yX12_fault.desc).map (fun d => d.parameters.length) = some 0 := by decide +kernel
def wsX12_many : List Cond := .code yX12_many cX12_many 2 (some .int) :: gT
theorem hdX12_many : yX12_many.cls = RX12 ∧ yX12_many.cls ≠ "java/lang/invoke/MethodHandle" ∧ yX12_many.cls ≠ "java/lang/invoke/VarHandle" ∧ (parseMethodDescriptor yX12_many.desc).map (fun d => d.parameters.length) = some 1 := by decide +kernel
def wsX12_items : List Cond := .code yX12_items cX12_items 1 (some .int) :: gT
theorem hdX12_items : yX12_items.cls = RX12 ∧ yX12_items.cls ≠ "java/lang/invoke/MethodHandle" ∧ yX12_items.cls ≠ "java/lang/invoke/VarHandle" ∧ (parseMethodDescriptor yX12_items.desc).map (fun d => d.parameters.length) = some 0 := by decide +kernel
def wsX12_none : List Cond := .code yX12_none cX12_none 1 (some .boolean) :: gT
theorem hdX12_none : yX12_none.cls = RX12 ∧ yX12_none.cls ≠ "java/lang/invoke/MethodHandle" ∧ yX12_none.cls ≠ "java/lang/invoke/VarHandle" ∧ (parseMethodDescriptor yX12_none.desc).map (fun d => d.parameters.length) = some 0 := by decide +kernel
def wsX12_fails : List Cond := .code yX12_fails cX12_fails 3 (some .boolean) :: gT
theorem hdX12_fails : yX12_fails.cls = RX12 ∧ yX12_fails.cls ≠ "java/lang/invoke/MethodHandle" ∧ yX12_fails.cls ≠ "java/lang/invoke/VarHandle" ∧ (parseMethodDescriptor yX12_fails.desc).map (fun d => d.parameters.length) = some 2 := by decide +kernel
def wsX12_count : List Cond := .code yX12_count cX12_count 3 (some .int) :: gT
theorem hdX12_count : yX12_count.cls = RX12 ∧ yX12_count.cls ≠ "java/lang/invoke/MethodHandle" ∧ yX12_count.cls ≠ "java/lang/invoke/VarHandle" ∧ (parseMethodDescriptor yX12_count.desc).map (fun d => d.parameters.length) = some 1 := by decide +kernel
def wsX12_finds : List Cond := .code yX12_finds cX12_finds 7 (some .boolean) :: gT
theorem hdX12_finds : yX12_finds.cls = RX12 ∧ yX12_finds.cls ≠ "java/lang/invoke/MethodHandle" ∧ yX12_finds.cls ≠ "java/lang/invoke/VarHandle" ∧ (parseMethodDescriptor yX12_finds.desc).map (fun d => d.parameters.length) = some 2 := by decide +kernel
def wsX12_four : List Cond := .code yX12_four cX12_four 2 (some .int) :: gT
theorem hdX12_four : yX12_four.cls = RX12 ∧ yX12_four.cls ≠ "java/lang/invoke/MethodHandle" ∧ yX12_four.cls ≠ "java/lang/invoke/VarHandle" ∧ (parseMethodDescriptor yX12_four.desc).map (fun d => d.parameters.length) = some 1 := by decide +kernel
def wsX12_two : List Cond := .code yX12_two cX12_two 2 (some .int) :: gT
theorem hdX12_two : yX12_two.cls = RX12 ∧ yX12_two.cls ≠ "java/lang/invoke/MethodHandle" ∧ yX12_two.cls ≠ "java/lang/invoke/VarHandle" ∧ (parseMethodDescriptor yX12_two.desc).map (fun d => d.parameters.length) = some 1 := by decide +kernel
def wsX12_one : List Cond := .code yX12_one cX12_one 2 (some .int) :: gT
theorem hdX12_one : yX12_one.cls = RX12 ∧ yX12_one.cls ≠ "java/lang/invoke/MethodHandle" ∧ yX12_one.cls ≠ "java/lang/invoke/VarHandle" ∧ (parseMethodDescriptor yX12_one.desc).map (fun d => d.parameters.length) = some 1 := by decide +kernel
def wsX12_letter : List Cond := .code yX12_letter cX12_letter 3 (some .int) :: gT
theorem hdX12_letter : yX12_letter.cls = RX12 ∧ yX12_letter.cls ≠ "java/lang/invoke/MethodHandle" ∧ yX12_letter.cls ≠ "java/lang/invoke/VarHandle" ∧ (parseMethodDescriptor yX12_letter.desc).map (fun d => d.parameters.length) = some 2 := by decide +kernel
def wsX12_no : List Cond := .code yX12_no cX12_no 2 (some .boolean) :: gT
theorem hdX12_no : yX12_no.cls = RX12 ∧ yX12_no.cls ≠ "java/lang/invoke/MethodHandle" ∧ yX12_no.cls ≠ "java/lang/invoke/VarHandle" ∧ (parseMethodDescriptor yX12_no.desc).map (fun d => d.parameters.length) = some 1 := by decide +kernel
def wsX12_about : List Cond := .code yX12_about cX12_about 4 (some .long) :: gT
theorem hdX12_about : yX12_about.cls = RX12 ∧ yX12_about.cls ≠ "java/lang/invoke/MethodHandle" ∧ yX12_about.cls ≠ "java/lang/invoke/VarHandle" ∧ (parseMethodDescriptor yX12_about.desc).map (fun d => d.parameters.length) = some 2 := by decide +kernel
def wsX12_content : List Cond := .code yX12_content cX12_content 4 (some .int) :: gT
theorem hdX12_content : yX12_content.cls = RX12 ∧ yX12_content.cls ≠ "java/lang/invoke/MethodHandle" ∧ yX12_content.cls ≠ "java/lang/invoke/VarHandle" ∧ (parseMethodDescriptor yX12_content.desc).map (fun d => d.parameters.length) = some 2 := by decide +kernel
def wsX12_blockOf : List Cond := .code yX12_blockOf cX12_blockOf 5 (some .int) :: gT
theorem hdX12_blockOf : yX12_blockOf.cls = RX12 ∧ yX12_blockOf.cls ≠ "java/lang/invoke/MethodHandle" ∧ yX12_blockOf.cls ≠ "java/lang/invoke/VarHandle" ∧ (parseMethodDescriptor yX12_blockOf.desc).map (fun d => d.parameters.length) = some 2 := by decide +kernel
def wsX12_enter : List Cond := .code yX12_enter cX12_enter 2 (some .int) :: gT
theorem hdX12_enter : yX12_enter.cls = RX12 ∧ yX12_enter.cls ≠ "java/lang/invoke/MethodHandle" ∧ yX12_enter.cls ≠ "java/lang/invoke/VarHandle" ∧ (parseMethodDescriptor yX12_enter.desc).map (fun d => d.parameters.length) = some 1 := by decide +kernel
def wsX12_up : List Cond := .code yX12_up cX12_up 1 (some .boolean) :: gT
theorem hdX12_up : yX12_up.cls = RX12 ∧ yX12_up.cls ≠ "java/lang/invoke/MethodHandle" ∧ yX12_up.cls ≠ "java/lang/invoke/VarHandle" ∧ (parseMethodDescriptor yX12_up.desc).map (fun d => d.parameters.length) = some 0 := by decide +kernel
def wsX12_make : List Cond := .code yX12_make cX12_make 10 (some .int) :: gT
theorem hdX12_make : yX12_make.cls = RX12 ∧ yX12_make.cls ≠ "java/lang/invoke/MethodHandle" ∧ yX12_make.cls ≠ "java/lang/invoke/VarHandle" ∧ (parseMethodDescriptor yX12_make.desc).map (fun d => d.parameters.length) = some 1 := by decide +kernel
def wsX12_named : List Cond := .code yX12_named cX12_named 3 (some .boolean) :: gT
theorem hdX12_named : yX12_named.cls = RX12 ∧ yX12_named.cls ≠ "java/lang/invoke/MethodHandle" ∧ yX12_named.cls ≠ "java/lang/invoke/VarHandle" ∧ (parseMethodDescriptor yX12_named.desc).map (fun d => d.parameters.length) = some 0 := by decide +kernel
def wsX12_isTaken : List Cond := .code yX12_isTaken cX12_isTaken 4 (some .boolean) :: gT
theorem hdX12_isTaken : yX12_isTaken.cls = RX12 ∧ yX12_isTaken.cls ≠ "java/lang/invoke/MethodHandle" ∧ yX12_isTaken.cls ≠ "java/lang/invoke/VarHandle" ∧ (parseMethodDescriptor yX12_isTaken.desc).map (fun d => d.parameters.length) = some 0 := by decide +kernel
def wsX12_spot : List Cond := .code yX12_spot cX12_spot 5 (some .int) :: gT
theorem hdX12_spot : yX12_spot.cls = RX12 ∧ yX12_spot.cls ≠ "java/lang/invoke/MethodHandle" ∧ yX12_spot.cls ≠ "java/lang/invoke/VarHandle" ∧ (parseMethodDescriptor yX12_spot.desc).map (fun d => d.parameters.length) = some 0 := by decide +kernel
def wsX12_uses : List Cond := .code yX12_uses cX12_uses 2 (some .int) :: gT
theorem hdX12_uses : yX12_uses.cls = RX12 ∧ yX12_uses.cls ≠ "java/lang/invoke/MethodHandle" ∧ yX12_uses.cls ≠ "java/lang/invoke/VarHandle" ∧ (parseMethodDescriptor yX12_uses.desc).map (fun d => d.parameters.length) = some 1 := by decide +kernel
def wsX12_write : List Cond := .code yX12_write cX12_write 3 (some .int) :: gT
theorem hdX12_write : yX12_write.cls = RX12 ∧ yX12_write.cls ≠ "java/lang/invoke/MethodHandle" ∧ yX12_write.cls ≠ "java/lang/invoke/VarHandle" ∧ (parseMethodDescriptor yX12_write.desc).map (fun d => d.parameters.length) = some 1 := by decide +kernel
def wsX12_noFile : List Cond := .code yX12_noFile cX12_noFile 3 (some .boolean) :: gT
theorem hdX12_noFile : yX12_noFile.cls = RX12 ∧ yX12_noFile.cls ≠ "java/lang/invoke/MethodHandle" ∧ yX12_noFile.cls ≠ "java/lang/invoke/VarHandle" ∧ (parseMethodDescriptor yX12_noFile.desc).map (fun d => d.parameters.length) = some 2 := by decide +kernel
def wsX12_append : List Cond := .code yX12_append cX12_append 10 (some .int) :: gT
theorem hdX12_append : yX12_append.cls = RX12 ∧ yX12_append.cls ≠ "java/lang/invoke/MethodHandle" ∧ yX12_append.cls ≠ "java/lang/invoke/VarHandle" ∧ (parseMethodDescriptor yX12_append.desc).map (fun d => d.parameters.length) = some 4 := by decide +kernel
def wsX12_grow : List Cond := .code yX12_grow cX12_grow 4 (some .int) :: gT
theorem hdX12_grow : yX12_grow.cls = RX12 ∧ yX12_grow.cls ≠ "java/lang/invoke/MethodHandle" ∧ yX12_grow.cls ≠ "java/lang/invoke/VarHandle" ∧ (parseMethodDescriptor yX12_grow.desc).map (fun d => d.parameters.length) = some 3 := by decide +kernel
def wsX12_cut : List Cond := .code yX12_cut cX12_cut 5 (some .int) :: gT
theorem hdX12_cut : yX12_cut.cls = RX12 ∧ yX12_cut.cls ≠ "java/lang/invoke/MethodHandle" ∧ yX12_cut.cls ≠ "java/lang/invoke/VarHandle" ∧ (parseMethodDescriptor yX12_cut.desc).map (fun d => d.parameters.length) = some 2 := by decide +kernel
def wsX12_keep : List Cond := .code yX12_keep cX12_keep 8 none :: gT
theorem hdX12_keep : yX12_keep.cls = RX12 ∧ yX12_keep.cls ≠ "java/lang/invoke/MethodHandle" ∧ yX12_keep.cls ≠ "java/lang/invoke/VarHandle" ∧ (parseMethodDescriptor yX12_keep.desc).map (fun d => d.parameters.length) = some 2 := by decide +kernel
def wsX12_remove : List Cond := .code yX12_remove cX12_remove 5 none :: gT
theorem hdX12_remove : yX12_remove.cls = RX12 ∧ yX12_remove.cls ≠ "java/lang/invoke/MethodHandle" ∧ yX12_remove.cls ≠ "java/lang/invoke/VarHandle" ∧ (parseMethodDescriptor yX12_remove.desc).map (fun d => d.parameters.length) = some 1 := by decide +kernel
def wsX12_stamp : List Cond := .code yX12_stamp cX12_stamp 5 none :: gT
theorem hdX12_stamp : yX12_stamp.cls = RX12 ∧ yX12_stamp.cls ≠ "java/lang/invoke/MethodHandle" ∧ yX12_stamp.cls ≠ "java/lang/invoke/VarHandle" ∧ (parseMethodDescriptor yX12_stamp.desc).map (fun d => d.parameters.length) = some 3 := by decide +kernel
def wsJ2_fill : List Cond := .code yJ2_fill cJ2_fill 4 none :: gT
theorem hdJ2_fill : yJ2_fill.cls = RJ2 ∧ yJ2_fill.cls ≠ "java/lang/invoke/MethodHandle" ∧ yJ2_fill.cls ≠ "java/lang/invoke/VarHandle" ∧ (parseMethodDescriptor yJ2_fill.desc).map (fun d => d.parameters.length) = some 2 := by decide +kernel
def wsJ2_rangeCheck : List Cond := .code yJ2_rangeCheck cJ2_rangeCheck 3 none :: gT
theorem hdJ2_rangeCheck : yJ2_rangeCheck.cls = RJ2 ∧ yJ2_rangeCheck.cls ≠ "java/lang/invoke/MethodHandle" ∧ yJ2_rangeCheck.cls ≠ "java/lang/invoke/VarHandle" ∧ (parseMethodDescriptor yJ2_rangeCheck.desc).map (fun d => d.parameters.length) = some 3 := by decide +kernel
def wsJ2_fill__ : List Cond := .code yJ2_fill__ cJ2_fill__ 5 none :: gT
theorem hdJ2_fill__ : yJ2_fill__.cls = RJ2 ∧ yJ2_fill__.cls ≠ "java/lang/invoke/MethodHandle" ∧ yJ2_fill__.cls ≠ "java/lang/invoke/VarHandle" ∧ (parseMethodDescriptor yJ2_fill__.desc).map (fun d => d.parameters.length) = some 4 := by decide +kernel
def wsJ11_bitCount : List Cond := .code yJ11_bitCount cJ11_bitCount 1 (some .int) :: gT
theorem hdJ11_bitCount : yJ11_bitCount.cls = RJ11 ∧ yJ11_bitCount.cls ≠ "java/lang/invoke/MethodHandle" ∧ yJ11_bitCount.cls ≠ "java/lang/invoke/VarHandle" ∧ (parseMethodDescriptor yJ11_bitCount.desc).map (fun d => d.parameters.length) = some 1 := by decide +kernel
def wsJ2_fill_ : List Cond := .code yJ2_fill_ cJ2_fill_ 4 none :: gT
theorem hdJ2_fill_ : yJ2_fill_.cls = RJ2 ∧ yJ2_fill_.cls ≠ "java/lang/invoke/MethodHandle" ∧ yJ2_fill_.cls ≠ "java/lang/invoke/VarHandle" ∧ (parseMethodDescriptor yJ2_fill_.desc).map (fun d => d.parameters.length) = some 2 := by decide +kernel
