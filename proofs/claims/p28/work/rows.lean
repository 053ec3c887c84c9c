section
-- ===== PART A: goes FIRST, ahead of the names: the tables' words, and 'selects' of the private methods out of them =====
/-- a private method of a class that the tables say can be made, by its rows of tables_1 -/
def lw_okq (q : MethodName × Nat) : Prop := (q.1.cls ≠ "java/lang/invoke/MethodHandle" ∧ q.1.cls ≠ "java/lang/invoke/VarHandle") ∧ Cond.instantiable q.1.cls q.2 ∈ tables_1 ∧ Cond.privateMethod q.1 ∈ tables_1 ∧ Cond.instanceMethod q.1 ∈ tables_1
theorem lw_p0 : lw_okq (⟨"java/lang/Throwable", "fillInStackTrace", "(I)Ljava/lang/Throwable;"⟩, 6) := ⟨⟨by decide +kernel, by decide +kernel⟩, List.mem_of_getElem? (i := 428) (by decide +kernel), List.mem_of_getElem? (i := 426) (by decide +kernel), List.mem_of_getElem? (i := 427) (by decide +kernel)⟩
theorem lw_p1 : lw_okq (⟨"BinWard", "streetAt", "(I)LBinWard$Street;"⟩, 15) := ⟨⟨by decide +kernel, by decide +kernel⟩, List.mem_of_getElem? (i := 24) (by decide +kernel), List.mem_of_getElem? (i := 478) (by decide +kernel), List.mem_of_getElem? (i := 479) (by decide +kernel)⟩
theorem lw_p2 : lw_okq (⟨"BinWard", "lorryAt", "(I)LBinWard$Lorry;"⟩, 15) := ⟨⟨by decide +kernel, by decide +kernel⟩, List.mem_of_getElem? (i := 24) (by decide +kernel), List.mem_of_getElem? (i := 514) (by decide +kernel), List.mem_of_getElem? (i := 515) (by decide +kernel)⟩
theorem lw_p3 : lw_okq (⟨"BinWard", "baleAt", "(I)LBinWard$Bale;"⟩, 15) := ⟨⟨by decide +kernel, by decide +kernel⟩, List.mem_of_getElem? (i := 24) (by decide +kernel), List.mem_of_getElem? (i := 547) (by decide +kernel), List.mem_of_getElem? (i := 548) (by decide +kernel)⟩
theorem lw_p4 : lw_okq (⟨"BinWard", "fetchedEver", "()I"⟩, 15) := ⟨⟨by decide +kernel, by decide +kernel⟩, List.mem_of_getElem? (i := 24) (by decide +kernel), List.mem_of_getElem? (i := 593) (by decide +kernel), List.mem_of_getElem? (i := 594) (by decide +kernel)⟩
theorem lw_p5 : lw_okq (⟨"BinWard", "litterIn", "([LBinWard$Street;)I"⟩, 15) := ⟨⟨by decide +kernel, by decide +kernel⟩, List.mem_of_getElem? (i := 24) (by decide +kernel), List.mem_of_getElem? (i := 597) (by decide +kernel), List.mem_of_getElem? (i := 598) (by decide +kernel)⟩
theorem lw_p6 : lw_okq (⟨"BinWard$Search", "compare", "(III)V"⟩, 3) := ⟨⟨by decide +kernel, by decide +kernel⟩, List.mem_of_getElem? (i := 70) (by decide +kernel), List.mem_of_getElem? (i := 651) (by decide +kernel), List.mem_of_getElem? (i := 652) (by decide +kernel)⟩
theorem lw_p7 : lw_okq (⟨"BinWard", "fillBins", "([LBinWard$Street;)V"⟩, 15) := ⟨⟨by decide +kernel, by decide +kernel⟩, List.mem_of_getElem? (i := 24) (by decide +kernel), List.mem_of_getElem? (i := 663) (by decide +kernel), List.mem_of_getElem? (i := 664) (by decide +kernel)⟩
theorem lw_p8 : lw_okq (⟨"BinWard$Trip", "begin", "()V"⟩, 6) := ⟨⟨by decide +kernel, by decide +kernel⟩, List.mem_of_getElem? (i := 36) (by decide +kernel), List.mem_of_getElem? (i := 684) (by decide +kernel), List.mem_of_getElem? (i := 685) (by decide +kernel)⟩
theorem lw_p9 : lw_okq (⟨"BinWard$Trip", "empty", "(LBinWard$Street;LBinWard$Lorry;)V"⟩, 6) := ⟨⟨by decide +kernel, by decide +kernel⟩, List.mem_of_getElem? (i := 36) (by decide +kernel), List.mem_of_getElem? (i := 689) (by decide +kernel), List.mem_of_getElem? (i := 690) (by decide +kernel)⟩
theorem lw_p10 : lw_okq (⟨"BinWard$Trip", "load", "(LBinWard$Street;II)V"⟩, 6) := ⟨⟨by decide +kernel, by decide +kernel⟩, List.mem_of_getElem? (i := 36) (by decide +kernel), List.mem_of_getElem? (i := 693) (by decide +kernel), List.mem_of_getElem? (i := 694) (by decide +kernel)⟩
theorem lw_p11 : lw_okq (⟨"BinWard", "countedAsUsed", "(I)I"⟩, 15) := ⟨⟨by decide +kernel, by decide +kernel⟩, List.mem_of_getElem? (i := 24) (by decide +kernel), List.mem_of_getElem? (i := 710) (by decide +kernel), List.mem_of_getElem? (i := 711) (by decide +kernel)⟩
theorem lw_p12 : lw_okq (⟨"BinWard", "digestOfStreet", "(JI)J"⟩, 15) := ⟨⟨by decide +kernel, by decide +kernel⟩, List.mem_of_getElem? (i := 24) (by decide +kernel), List.mem_of_getElem? (i := 718) (by decide +kernel), List.mem_of_getElem? (i := 719) (by decide +kernel)⟩
theorem lw_p13 : lw_okq (⟨"BinWard", "digestOfLorry", "(JI)J"⟩, 15) := ⟨⟨by decide +kernel, by decide +kernel⟩, List.mem_of_getElem? (i := 24) (by decide +kernel), List.mem_of_getElem? (i := 731) (by decide +kernel), List.mem_of_getElem? (i := 732) (by decide +kernel)⟩
theorem lw_p14 : lw_okq (⟨"BinWard", "liveOneDay", "()I"⟩, 15) := ⟨⟨by decide +kernel, by decide +kernel⟩, List.mem_of_getElem? (i := 24) (by decide +kernel), List.mem_of_getElem? (i := 760) (by decide +kernel), List.mem_of_getElem? (i := 761) (by decide +kernel)⟩
theorem lw_p15 : lw_okq (⟨"BinWard", "driveRounds", "()I"⟩, 15) := ⟨⟨by decide +kernel, by decide +kernel⟩, List.mem_of_getElem? (i := 24) (by decide +kernel), List.mem_of_getElem? (i := 782) (by decide +kernel), List.mem_of_getElem? (i := 783) (by decide +kernel)⟩
def lw_privs_1 : List (MethodName × Nat) := [(⟨"java/lang/Throwable", "fillInStackTrace", "(I)Ljava/lang/Throwable;"⟩, 6), (⟨"BinWard", "streetAt", "(I)LBinWard$Street;"⟩, 15), (⟨"BinWard", "lorryAt", "(I)LBinWard$Lorry;"⟩, 15), (⟨"BinWard", "baleAt", "(I)LBinWard$Bale;"⟩, 15), (⟨"BinWard", "fetchedEver", "()I"⟩, 15), (⟨"BinWard", "litterIn", "([LBinWard$Street;)I"⟩, 15), (⟨"BinWard$Search", "compare", "(III)V"⟩, 3), (⟨"BinWard", "fillBins", "([LBinWard$Street;)V"⟩, 15), (⟨"BinWard$Trip", "begin", "()V"⟩, 6), (⟨"BinWard$Trip", "empty", "(LBinWard$Street;LBinWard$Lorry;)V"⟩, 6), (⟨"BinWard$Trip", "load", "(LBinWard$Street;II)V"⟩, 6), (⟨"BinWard", "countedAsUsed", "(I)I"⟩, 15), (⟨"BinWard", "digestOfStreet", "(JI)J"⟩, 15), (⟨"BinWard", "digestOfLorry", "(JI)J"⟩, 15), (⟨"BinWard", "liveOneDay", "()I"⟩, 15), (⟨"BinWard", "driveRounds", "()I"⟩, 15)]
theorem lw_r1 : ∀ q ∈ lw_privs_1, lw_okq q := List.forall_mem_cons.mpr ⟨lw_p0, List.forall_mem_cons.mpr ⟨lw_p1, List.forall_mem_cons.mpr ⟨lw_p2, List.forall_mem_cons.mpr ⟨lw_p3, List.forall_mem_cons.mpr ⟨lw_p4, List.forall_mem_cons.mpr ⟨lw_p5, List.forall_mem_cons.mpr ⟨lw_p6, List.forall_mem_cons.mpr ⟨lw_p7, List.forall_mem_cons.mpr ⟨lw_p8, List.forall_mem_cons.mpr ⟨lw_p9, List.forall_mem_cons.mpr ⟨lw_p10, List.forall_mem_cons.mpr ⟨lw_p11, List.forall_mem_cons.mpr ⟨lw_p12, List.forall_mem_cons.mpr ⟨lw_p13, List.forall_mem_cons.mpr ⟨lw_p14, List.forall_mem_cons.mpr ⟨lw_p15, fun _ h => absurd h List.not_mem_nil⟩⟩⟩⟩⟩⟩⟩⟩⟩⟩⟩⟩⟩⟩⟩⟩
theorem lw_p16 : lw_okq (⟨"BinWard", "noteMissed", "(LBinWard$Lorry;I)V"⟩, 15) := ⟨⟨by decide +kernel, by decide +kernel⟩, List.mem_of_getElem? (i := 24) (by decide +kernel), List.mem_of_getElem? (i := 790) (by decide +kernel), List.mem_of_getElem? (i := 791) (by decide +kernel)⟩
theorem lw_p17 : lw_okq (⟨"BinWard", "sortLoads", "()V"⟩, 15) := ⟨⟨by decide +kernel, by decide +kernel⟩, List.mem_of_getElem? (i := 24) (by decide +kernel), List.mem_of_getElem? (i := 805) (by decide +kernel), List.mem_of_getElem? (i := 806) (by decide +kernel)⟩
theorem lw_p18 : lw_okq (⟨"BinWard", "bringIn", "(ILBinWard$Trip;I)V"⟩, 15) := ⟨⟨by decide +kernel, by decide +kernel⟩, List.mem_of_getElem? (i := 24) (by decide +kernel), List.mem_of_getElem? (i := 817) (by decide +kernel), List.mem_of_getElem? (i := 818) (by decide +kernel)⟩
def lw_privs_2 : List (MethodName × Nat) := [(⟨"BinWard", "noteMissed", "(LBinWard$Lorry;I)V"⟩, 15), (⟨"BinWard", "sortLoads", "()V"⟩, 15), (⟨"BinWard", "bringIn", "(ILBinWard$Trip;I)V"⟩, 15)]
theorem lw_r2 : ∀ q ∈ lw_privs_2, lw_okq q := List.forall_mem_cons.mpr ⟨lw_p16, List.forall_mem_cons.mpr ⟨lw_p17, List.forall_mem_cons.mpr ⟨lw_p18, fun _ h => absurd h List.not_mem_nil⟩⟩⟩
def lw_privs : List (MethodName × Nat) := lw_privs_1 ++ (lw_privs_2)
def lw_tbl : List Cond := k2_sels lw_privs ++ tables_1
theorem lw_privs_ok : ∀ q ∈ lw_privs, lw_okq q := by
  show ∀ q ∈ lw_privs_1 ++ (lw_privs_2), lw_okq q
  exact List.forall_mem_append.mpr ⟨lw_r1, lw_r2⟩
/-- the streams that the claim lets the run draw from -/
abbrev lw_cs : List Choice := [Jvm.Choice.named "NaN.bits"]
theorem lw_bits : nanBits ∈ lw_cs := by first | decide | exact List.mem_cons_self | simp [lw_cs, nanBits]
/-! names, field tables, the tables' words by their places (made by wip/p28/gen/names.py) -/
def R_Bale : String := "BinWard$Bale"
def F_Bale : u_T := fun k => match k with
  | 0 => ("BinWard$Bale", "clean", "I", false)
  | 1 => ("BinWard$Bale", "dirty", "I", false)
  | 2 => ("BinWard$Bale", "state", "I", false)
  | _ => ("BinWard$Bale", "madeOn", "I", false)
def t_Bale : Nat → FieldType := fun k => match k with
  | 0 => .int
  | 1 => .int
  | 2 => .int
  | _ => .int
theorem n_Bale : ∀ a, a < 4 → ∀ b, b < 4 → a ≠ b → (F_Bale a).2.1 ≠ (F_Bale b).2.1 := by decide +kernel
theorem t_Bale_ok : ∀ k, k < 4 → parseFieldDescriptor (F_Bale k).2.2.1 = some (t_Bale k) := by decide +kernel
def R_Baler : String := "BinWard$Baler"
def F_Baler : u_T := fun k => match k with
  | 0 => ("BinWard$Baler", "clean", "I", false)
  | 1 => ("BinWard$Baler", "dirty", "I", false)
  | 2 => ("BinWard$Baler", "bales", "[LBinWard$Bale;", true)
  | _ => ("BinWard$Baler", "count", "I", false)
def t_Baler : Nat → FieldType := fun k => match k with
  | 0 => .int
  | 1 => .int
  | 2 => .array (.object "BinWard$Bale")
  | _ => .int
theorem n_Baler : ∀ a, a < 4 → ∀ b, b < 4 → a ≠ b → (F_Baler a).2.1 ≠ (F_Baler b).2.1 := by decide +kernel
theorem t_Baler_ok : ∀ k, k < 4 → parseFieldDescriptor (F_Baler k).2.2.1 = some (t_Baler k) := by decide +kernel
def R_Diary : String := "BinWard$Diary"
def F_Diary : u_T := fun k => match k with
  | _ => ("BinWard$Diary", "marks", "[I", false)
def t_Diary : Nat → FieldType := fun k => match k with
  | _ => .array .int
theorem n_Diary : ∀ a, a < 1 → ∀ b, b < 1 → a ≠ b → (F_Diary a).2.1 ≠ (F_Diary b).2.1 := by decide +kernel
theorem t_Diary_ok : ∀ k, k < 1 → parseFieldDescriptor (F_Diary k).2.2.1 = some (t_Diary k) := by decide +kernel
def R_Furnace : String := "BinWard$Furnace"
def F_Furnace : u_T := fun k => match k with
  | 0 => ("BinWard$Furnace", "most", "I", false)
  | 1 => ("BinWard$Furnace", "left", "I", false)
  | 2 => ("BinWard$Furnace", "burnt", "I", false)
  | 3 => ("BinWard$Furnace", "ash", "I", false)
  | _ => ("BinWard$Furnace", "heat", "I", false)
def t_Furnace : Nat → FieldType := fun k => match k with
  | 0 => .int
  | 1 => .int
  | 2 => .int
  | 3 => .int
  | _ => .int
theorem n_Furnace : ∀ a, a < 5 → ∀ b, b < 5 → a ≠ b → (F_Furnace a).2.1 ≠ (F_Furnace b).2.1 := by decide +kernel
theorem t_Furnace_ok : ∀ k, k < 5 → parseFieldDescriptor (F_Furnace k).2.2.1 = some (t_Furnace k) := by decide +kernel
def R_Heap : String := "BinWard$Heap"
def F_Heap : u_T := fun k => match k with
  | 0 => ("BinWard$Heap", "clean", "I", false)
  | 1 => ("BinWard$Heap", "dirty", "I", false)
  | 2 => ("BinWard$Heap", "compost", "I", false)
  | 3 => ("BinWard$Heap", "gone", "I", false)
  | _ => ("BinWard$Heap", "arrived", "I", false)
def t_Heap : Nat → FieldType := fun k => match k with
  | 0 => .int
  | 1 => .int
  | 2 => .int
  | 3 => .int
  | _ => .int
theorem n_Heap : ∀ a, a < 5 → ∀ b, b < 5 → a ≠ b → (F_Heap a).2.1 ≠ (F_Heap b).2.1 := by decide +kernel
theorem t_Heap_ok : ∀ k, k < 5 → parseFieldDescriptor (F_Heap k).2.2.1 = some (t_Heap k) := by decide +kernel
def R_Line : String := "BinWard$Line"
def F_Line : u_T := fun k => match k with
  | 0 => ("BinWard$Line", "eye", "I", false)
  | 1 => ("BinWard$Line", "hand", "I", false)
  | _ => ("BinWard$Line", "handLeft", "I", false)
def t_Line : Nat → FieldType := fun k => match k with
  | 0 => .int
  | 1 => .int
  | _ => .int
theorem n_Line : ∀ a, a < 3 → ∀ b, b < 3 → a ≠ b → (F_Line a).2.1 ≠ (F_Line b).2.1 := by decide +kernel
theorem t_Line_ok : ∀ k, k < 3 → parseFieldDescriptor (F_Line k).2.2.1 = some (t_Line k) := by decide +kernel
def R_Lorry : String := "BinWard$Lorry"
def F_Lorry : u_T := fun k => match k with
  | 0 => ("BinWard$Lorry", "shift", "I", false)
  | 1 => ("BinWard$Lorry", "streams", "[I", true)
  | 2 => ("BinWard$Lorry", "rounds", "[[I", true)
  | 3 => ("BinWard$Lorry", "lengths", "[I", true)
  | 4 => ("BinWard$Lorry", "trip", "LBinWard$Trip;", true)
  | 5 => ("BinWard$Lorry", "latestMinutes", "I", false)
  | 6 => ("BinWard$Lorry", "latestDone", "I", false)
  | 7 => ("BinWard$Lorry", "latestHalf", "I", false)
  | _ => ("BinWard$Lorry", "fetched", "I", false)
def t_Lorry : Nat → FieldType := fun k => match k with
  | 0 => .int
  | 1 => .array .int
  | 2 => .array (.array .int)
  | 3 => .array .int
  | 4 => .object "BinWard$Trip"
  | 5 => .int
  | 6 => .int
  | 7 => .int
  | _ => .int
theorem n_Lorry : ∀ a, a < 9 → ∀ b, b < 9 → a ≠ b → (F_Lorry a).2.1 ≠ (F_Lorry b).2.1 := by decide +kernel
theorem t_Lorry_ok : ∀ k, k < 9 → parseFieldDescriptor (F_Lorry k).2.2.1 = some (t_Lorry k) := by decide +kernel
def R_Pit : String := "BinWard$Pit"
def F_Pit : u_T := fun k => match k with
  | 0 => ("BinWard$Pit", "kilos", "I", false)
  | 1 => ("BinWard$Pit", "rotting", "I", false)
  | 2 => ("BinWard$Pit", "gas", "I", false)
  | _ => ("BinWard$Pit", "cost", "I", false)
def t_Pit : Nat → FieldType := fun k => match k with
  | 0 => .int
  | 1 => .int
  | 2 => .int
  | _ => .int
theorem n_Pit : ∀ a, a < 4 → ∀ b, b < 4 → a ≠ b → (F_Pit a).2.1 ≠ (F_Pit b).2.1 := by decide +kernel
theorem t_Pit_ok : ∀ k, k < 4 → parseFieldDescriptor (F_Pit k).2.2.1 = some (t_Pit k) := by decide +kernel
def R_Search : String := "BinWard$Search"
def F_Search : u_T := fun k => match k with
  | 0 => ("BinWard$Search", "bestKilos", "I", false)
  | 1 => ("BinWard$Search", "bestNumber", "I", false)
  | _ => ("BinWard$Search", "bestMinutes", "I", false)
def t_Search : Nat → FieldType := fun k => match k with
  | 0 => .int
  | 1 => .int
  | _ => .int
theorem n_Search : ∀ a, a < 3 → ∀ b, b < 3 → a ≠ b → (F_Search a).2.1 ≠ (F_Search b).2.1 := by decide +kernel
theorem t_Search_ok : ∀ k, k < 3 → parseFieldDescriptor (F_Search k).2.2.1 = some (t_Search k) := by decide +kernel
def R_Street : String := "BinWard$Street"
def F_Street : u_T := fun k => match k with
  | 0 => ("BinWard$Street", "place", "I", false)
  | 1 => ("BinWard$Street", "dirt", "I", false)
  | 2 => ("BinWard$Street", "litter", "I", false)
  | 3 => ("BinWard$Street", "habits", "[I", true)
  | 4 => ("BinWard$Street", "clean", "[I", true)
  | 5 => ("BinWard$Street", "dirty", "[I", true)
  | 6 => ("BinWard$Street", "fetched", "[I", true)
  | 7 => ("BinWard$Street", "rightClaims", "I", false)
  | _ => ("BinWard$Street", "missedDays", "I", false)
def t_Street : Nat → FieldType := fun k => match k with
  | 0 => .int
  | 1 => .int
  | 2 => .int
  | 3 => .array .int
  | 4 => .array .int
  | 5 => .array .int
  | 6 => .array .int
  | 7 => .int
  | _ => .int
theorem n_Street : ∀ a, a < 9 → ∀ b, b < 9 → a ≠ b → (F_Street a).2.1 ≠ (F_Street b).2.1 := by decide +kernel
theorem t_Street_ok : ∀ k, k < 9 → parseFieldDescriptor (F_Street k).2.2.1 = some (t_Street k) := by decide +kernel
def R_Trip : String := "BinWard$Trip"
def F_Trip : u_T := fun k => match k with
  | 0 => ("BinWard$Trip", "clean", "[I", true)
  | 1 => ("BinWard$Trip", "dirty", "[I", true)
  | 2 => ("BinWard$Trip", "minutes", "I", false)
  | 3 => ("BinWard$Trip", "done", "I", false)
  | 4 => ("BinWard$Trip", "half", "I", false)
  | _ => ("BinWard$Trip", "fetched", "I", false)
def t_Trip : Nat → FieldType := fun k => match k with
  | 0 => .array .int
  | 1 => .array .int
  | 2 => .int
  | 3 => .int
  | 4 => .int
  | _ => .int
theorem n_Trip : ∀ a, a < 6 → ∀ b, b < 6 → a ≠ b → (F_Trip a).2.1 ≠ (F_Trip b).2.1 := by decide +kernel
theorem t_Trip_ok : ∀ k, k < 6 → parseFieldDescriptor (F_Trip k).2.2.1 = some (t_Trip k) := by decide +kernel
def R_Ward : String := "BinWard"
def F_Ward : u_T := fun k => match k with
  | 0 => ("BinWard", "streets", "[LBinWard$Street;", true)
  | 1 => ("BinWard", "spareStreets", "[LBinWard$Street;", true)
  | 2 => ("BinWard", "streetCount", "I", false)
  | 3 => ("BinWard", "lorries", "[LBinWard$Lorry;", true)
  | 4 => ("BinWard", "lorryCount", "I", false)
  | 5 => ("BinWard", "spareTrip", "LBinWard$Trip;", true)
  | 6 => ("BinWard", "search", "LBinWard$Search;", true)
  | 7 => ("BinWard", "diary", "LBinWard$Diary;", true)
  | 8 => ("BinWard", "line", "LBinWard$Line;", true)
  | 9 => ("BinWard", "baler", "LBinWard$Baler;", true)
  | 10 => ("BinWard", "furnace", "LBinWard$Furnace;", true)
  | 11 => ("BinWard", "heap", "LBinWard$Heap;", true)
  | 12 => ("BinWard", "pit", "LBinWard$Pit;", true)
  | 13 => ("BinWard", "now", "I", false)
  | _ => ("BinWard", "earned", "I", false)
def t_Ward : Nat → FieldType := fun k => match k with
  | 0 => .array (.object "BinWard$Street")
  | 1 => .array (.object "BinWard$Street")
  | 2 => .int
  | 3 => .array (.object "BinWard$Lorry")
  | 4 => .int
  | 5 => .object "BinWard$Trip"
  | 6 => .object "BinWard$Search"
  | 7 => .object "BinWard$Diary"
  | 8 => .object "BinWard$Line"
  | 9 => .object "BinWard$Baler"
  | 10 => .object "BinWard$Furnace"
  | 11 => .object "BinWard$Heap"
  | 12 => .object "BinWard$Pit"
  | 13 => .int
  | _ => .int
theorem n_Ward : ∀ a, a < 15 → ∀ b, b < 15 → a ≠ b → (F_Ward a).2.1 ≠ (F_Ward b).2.1 := by decide +kernel
theorem t_Ward_ok : ∀ k, k < 15 → parseFieldDescriptor (F_Ward k).2.2.1 = some (t_Ward k) := by decide +kernel
abbrev classes : List vw_C := [(R_Bale, F_Bale, 4), (R_Baler, F_Baler, 4), (R_Diary, F_Diary, 1), (R_Furnace, F_Furnace, 5), (R_Heap, F_Heap, 5), (R_Line, F_Line, 3), (R_Lorry, F_Lorry, 9), (R_Pit, F_Pit, 4), (R_Search, F_Search, 3), (R_Street, F_Street, 9), (R_Trip, F_Trip, 6), (R_Ward, F_Ward, 15)]
def tg : List Cond := lw_tbl.filter goodWord
theorem m_tg {w : Cond} (hg : goodWord w = true) (h : w ∈ lw_tbl) : w ∈ tg := List.mem_filter.mpr ⟨h, hg⟩
theorem m_P {i : Nat} {w : Cond} (h : (k2_sels lw_privs)[i]? = some w) (hg : goodWord w = true) : w ∈ tg := m_tg hg (List.mem_append_left _ (List.mem_of_getElem? h))
theorem m_T1 {i : Nat} {w : Cond} (h : tables_1_1[i]? = some w) (hg : goodWord w = true) : w ∈ tg := m_tg hg (List.mem_append_right _ (List.mem_append_left _ (List.mem_of_getElem? h)))
theorem m_T2 {i : Nat} {w : Cond} (h : tables_1_2[i]? = some w) (hg : goodWord w = true) : w ∈ tg := m_tg hg (List.mem_append_right _ (List.mem_append_right _ (List.mem_append_left _ (List.mem_of_getElem? h))))
theorem m_T3 {i : Nat} {w : Cond} (h : tables_1_3[i]? = some w) (hg : goodWord w = true) : w ∈ tg := m_tg hg (List.mem_append_right _ (List.mem_append_right _ (List.mem_append_right _ (List.mem_append_left _ (List.mem_of_getElem? h)))))
theorem m_T4 {i : Nat} {w : Cond} (h : tables_1_4[i]? = some w) (hg : goodWord w = true) : w ∈ tg := m_tg hg (List.mem_append_right _ (List.mem_append_right _ (List.mem_append_right _ (List.mem_append_right _ (List.mem_of_getElem? h)))))
theorem i_Bale : ∀ w ∈ u_ws R_Bale F_Bale 4, w ∈ tg := by
  intro w hw
  obtain ⟨k, hk, rfl⟩ := List.mem_map.mp hw
  have hk := List.mem_range.mp hk
  match k, hk with
  | 0, _ => exact m_T1 (i := 137) (by decide +kernel) (by decide +kernel)
  | 1, _ => exact m_T1 (i := 139) (by decide +kernel) (by decide +kernel)
  | 2, _ => exact m_T1 (i := 141) (by decide +kernel) (by decide +kernel)
  | 3, _ => exact m_T1 (i := 143) (by decide +kernel) (by decide +kernel)
  | k + 4, h => exact absurd h (by omega)
theorem i_Baler : ∀ w ∈ u_ws R_Baler F_Baler 4, w ∈ tg := by
  intro w hw
  obtain ⟨k, hk, rfl⟩ := List.mem_map.mp hw
  have hk := List.mem_range.mp hk
  match k, hk with
  | 0, _ => exact m_T1 (i := 156) (by decide +kernel) (by decide +kernel)
  | 1, _ => exact m_T1 (i := 158) (by decide +kernel) (by decide +kernel)
  | 2, _ => exact m_T1 (i := 160) (by decide +kernel) (by decide +kernel)
  | 3, _ => exact m_T1 (i := 162) (by decide +kernel) (by decide +kernel)
  | k + 4, h => exact absurd h (by omega)
theorem i_Diary : ∀ w ∈ u_ws R_Diary F_Diary 1, w ∈ tg := by
  intro w hw
  obtain ⟨k, hk, rfl⟩ := List.mem_map.mp hw
  have hk := List.mem_range.mp hk
  match k, hk with
  | 0, _ => exact m_T1 (i := 94) (by decide +kernel) (by decide +kernel)
  | k + 1, h => exact absurd h (by omega)
theorem i_Furnace : ∀ w ∈ u_ws R_Furnace F_Furnace 5, w ∈ tg := by
  intro w hw
  obtain ⟨k, hk, rfl⟩ := List.mem_map.mp hw
  have hk := List.mem_range.mp hk
  match k, hk with
  | 0, _ => exact m_T1 (i := 180) (by decide +kernel) (by decide +kernel)
  | 1, _ => exact m_T1 (i := 182) (by decide +kernel) (by decide +kernel)
  | 2, _ => exact m_T1 (i := 184) (by decide +kernel) (by decide +kernel)
  | 3, _ => exact m_T1 (i := 186) (by decide +kernel) (by decide +kernel)
  | 4, _ => exact m_T1 (i := 188) (by decide +kernel) (by decide +kernel)
  | k + 5, h => exact absurd h (by omega)
theorem i_Heap : ∀ w ∈ u_ws R_Heap F_Heap 5, w ∈ tg := by
  intro w hw
  obtain ⟨k, hk, rfl⟩ := List.mem_map.mp hw
  have hk := List.mem_range.mp hk
  match k, hk with
  | 0, _ => exact m_T1 (i := 207) (by decide +kernel) (by decide +kernel)
  | 1, _ => exact m_T1 (i := 209) (by decide +kernel) (by decide +kernel)
  | 2, _ => exact m_T1 (i := 211) (by decide +kernel) (by decide +kernel)
  | 3, _ => exact m_T1 (i := 213) (by decide +kernel) (by decide +kernel)
  | 4, _ => exact m_T1 (i := 215) (by decide +kernel) (by decide +kernel)
  | k + 5, h => exact absurd h (by omega)
theorem i_Line : ∀ w ∈ u_ws R_Line F_Line 3, w ∈ tg := by
  intro w hw
  obtain ⟨k, hk, rfl⟩ := List.mem_map.mp hw
  have hk := List.mem_range.mp hk
  match k, hk with
  | 0, _ => exact m_T1 (i := 108) (by decide +kernel) (by decide +kernel)
  | 1, _ => exact m_T1 (i := 110) (by decide +kernel) (by decide +kernel)
  | 2, _ => exact m_T1 (i := 112) (by decide +kernel) (by decide +kernel)
  | k + 3, h => exact absurd h (by omega)
theorem i_Lorry : ∀ w ∈ u_ws R_Lorry F_Lorry 9, w ∈ tg := by
  intro w hw
  obtain ⟨k, hk, rfl⟩ := List.mem_map.mp hw
  have hk := List.mem_range.mp hk
  match k, hk with
  | 0, _ => exact m_T2 (i := 77) (by decide +kernel) (by decide +kernel)
  | 1, _ => exact m_T2 (i := 79) (by decide +kernel) (by decide +kernel)
  | 2, _ => exact m_T2 (i := 81) (by decide +kernel) (by decide +kernel)
  | 3, _ => exact m_T2 (i := 83) (by decide +kernel) (by decide +kernel)
  | 4, _ => exact m_T2 (i := 85) (by decide +kernel) (by decide +kernel)
  | 5, _ => exact m_T2 (i := 87) (by decide +kernel) (by decide +kernel)
  | 6, _ => exact m_T2 (i := 89) (by decide +kernel) (by decide +kernel)
  | 7, _ => exact m_T2 (i := 91) (by decide +kernel) (by decide +kernel)
  | 8, _ => exact m_T2 (i := 93) (by decide +kernel) (by decide +kernel)
  | k + 9, h => exact absurd h (by omega)
theorem i_Pit : ∀ w ∈ u_ws R_Pit F_Pit 4, w ∈ tg := by
  intro w hw
  obtain ⟨k, hk, rfl⟩ := List.mem_map.mp hw
  have hk := List.mem_range.mp hk
  match k, hk with
  | 0, _ => exact m_T1 (i := 232) (by decide +kernel) (by decide +kernel)
  | 1, _ => exact m_T1 (i := 234) (by decide +kernel) (by decide +kernel)
  | 2, _ => exact m_T1 (i := 236) (by decide +kernel) (by decide +kernel)
  | 3, _ => exact m_T1 (i := 238) (by decide +kernel) (by decide +kernel)
  | k + 4, h => exact absurd h (by omega)
theorem i_Search : ∀ w ∈ u_ws R_Search F_Search 3, w ∈ tg := by
  intro w hw
  obtain ⟨k, hk, rfl⟩ := List.mem_map.mp hw
  have hk := List.mem_range.mp hk
  match k, hk with
  | 0, _ => exact m_T1 (i := 80) (by decide +kernel) (by decide +kernel)
  | 1, _ => exact m_T1 (i := 82) (by decide +kernel) (by decide +kernel)
  | 2, _ => exact m_T1 (i := 84) (by decide +kernel) (by decide +kernel)
  | k + 3, h => exact absurd h (by omega)
theorem i_Street : ∀ w ∈ u_ws R_Street F_Street 9, w ∈ tg := by
  intro w hw
  obtain ⟨k, hk, rfl⟩ := List.mem_map.mp hw
  have hk := List.mem_range.mp hk
  match k, hk with
  | 0, _ => exact m_T2 (i := 26) (by decide +kernel) (by decide +kernel)
  | 1, _ => exact m_T2 (i := 28) (by decide +kernel) (by decide +kernel)
  | 2, _ => exact m_T2 (i := 30) (by decide +kernel) (by decide +kernel)
  | 3, _ => exact m_T2 (i := 32) (by decide +kernel) (by decide +kernel)
  | 4, _ => exact m_T2 (i := 34) (by decide +kernel) (by decide +kernel)
  | 5, _ => exact m_T2 (i := 36) (by decide +kernel) (by decide +kernel)
  | 6, _ => exact m_T2 (i := 38) (by decide +kernel) (by decide +kernel)
  | 7, _ => exact m_T2 (i := 40) (by decide +kernel) (by decide +kernel)
  | 8, _ => exact m_T2 (i := 42) (by decide +kernel) (by decide +kernel)
  | k + 9, h => exact absurd h (by omega)
theorem i_Trip : ∀ w ∈ u_ws R_Trip F_Trip 6, w ∈ tg := by
  intro w hw
  obtain ⟨k, hk, rfl⟩ := List.mem_map.mp hw
  have hk := List.mem_range.mp hk
  match k, hk with
  | 0, _ => exact m_T1 (i := 55) (by decide +kernel) (by decide +kernel)
  | 1, _ => exact m_T1 (i := 57) (by decide +kernel) (by decide +kernel)
  | 2, _ => exact m_T1 (i := 59) (by decide +kernel) (by decide +kernel)
  | 3, _ => exact m_T1 (i := 61) (by decide +kernel) (by decide +kernel)
  | 4, _ => exact m_T1 (i := 63) (by decide +kernel) (by decide +kernel)
  | 5, _ => exact m_T1 (i := 65) (by decide +kernel) (by decide +kernel)
  | k + 6, h => exact absurd h (by omega)
theorem i_Ward : ∀ w ∈ u_ws R_Ward F_Ward 15, w ∈ tg := by
  intro w hw
  obtain ⟨k, hk, rfl⟩ := List.mem_map.mp hw
  have hk := List.mem_range.mp hk
  match k, hk with
  | 0, _ => exact m_T2 (i := 111) (by decide +kernel) (by decide +kernel)
  | 1, _ => exact m_T2 (i := 113) (by decide +kernel) (by decide +kernel)
  | 2, _ => exact m_T2 (i := 115) (by decide +kernel) (by decide +kernel)
  | 3, _ => exact m_T2 (i := 117) (by decide +kernel) (by decide +kernel)
  | 4, _ => exact m_T2 (i := 119) (by decide +kernel) (by decide +kernel)
  | 5, _ => exact m_T2 (i := 121) (by decide +kernel) (by decide +kernel)
  | 6, _ => exact m_T2 (i := 123) (by decide +kernel) (by decide +kernel)
  | 7, _ => exact m_T2 (i := 125) (by decide +kernel) (by decide +kernel)
  | 8, _ => exact m_T2 (i := 127) (by decide +kernel) (by decide +kernel)
  | 9, _ => exact m_T2 (i := 129) (by decide +kernel) (by decide +kernel)
  | 10, _ => exact m_T2 (i := 131) (by decide +kernel) (by decide +kernel)
  | 11, _ => exact m_T2 (i := 133) (by decide +kernel) (by decide +kernel)
  | 12, _ => exact m_T2 (i := 135) (by decide +kernel) (by decide +kernel)
  | 13, _ => exact m_T2 (i := 137) (by decide +kernel) (by decide +kernel)
  | 14, _ => exact m_T2 (i := 139) (by decide +kernel) (by decide +kernel)
  | k + 15, h => exact absurd h (by omega)
end
section
/-! the rows that decode each instruction (made by wip/p28/gen/names.py) -/
/-- at pc stands i, of len bytes; the next is n -/
def Dc (cc : ByteArray) (pc : Nat) (i : Instr) (len n : Nat) : Prop := decode cc pc = .ok (i, len) ∧ pc + len = n
/-- at pc stands a branch, to tgt, else n -/
def Dj (cc : ByteArray) (pc : Nat) (f : Int → Instr) (tgt n : Nat) : Prop := ∃ off : Int, decode cc pc = .ok (f off, 3) ∧ (pc : Int) + off = (tgt : Int) ∧ pc + 3 = n
abbrev b_Integer_bitCount : ByteArray := prog_25_method_49_code
def y_Integer_bitCount : MethodName := ⟨"java/lang/Integer", "bitCount", "(I)I"⟩
theorem d_Integer_bitCount_0 : Dc b_Integer_bitCount 0 (.iload_n 0) 1 1 := ⟨by decide +kernel, rfl⟩
theorem d_Integer_bitCount_1 : Dc b_Integer_bitCount 1 (.iload_n 0) 1 2 := ⟨by decide +kernel, rfl⟩
theorem d_Integer_bitCount_2 : Dc b_Integer_bitCount 2 (.iconst 1) 1 3 := ⟨by decide +kernel, rfl⟩
theorem d_Integer_bitCount_3 : Dc b_Integer_bitCount 3 .iushr 1 4 := ⟨by decide +kernel, rfl⟩
theorem d_Integer_bitCount_4 : Dc b_Integer_bitCount 4 (.ldc_w 265) 3 7 := ⟨by decide +kernel, rfl⟩
theorem d_Integer_bitCount_7 : Dc b_Integer_bitCount 7 .iand 1 8 := ⟨by decide +kernel, rfl⟩
theorem d_Integer_bitCount_8 : Dc b_Integer_bitCount 8 .isub 1 9 := ⟨by decide +kernel, rfl⟩
theorem d_Integer_bitCount_9 : Dc b_Integer_bitCount 9 (.istore_n 0) 1 10 := ⟨by decide +kernel, rfl⟩
theorem d_Integer_bitCount_10 : Dc b_Integer_bitCount 10 (.iload_n 0) 1 11 := ⟨by decide +kernel, rfl⟩
theorem d_Integer_bitCount_11 : Dc b_Integer_bitCount 11 (.ldc_w 266) 3 14 := ⟨by decide +kernel, rfl⟩
theorem d_Integer_bitCount_14 : Dc b_Integer_bitCount 14 .iand 1 15 := ⟨by decide +kernel, rfl⟩
theorem d_Integer_bitCount_15 : Dc b_Integer_bitCount 15 (.iload_n 0) 1 16 := ⟨by decide +kernel, rfl⟩
theorem d_Integer_bitCount_16 : Dc b_Integer_bitCount 16 (.iconst 2) 1 17 := ⟨by decide +kernel, rfl⟩
theorem d_Integer_bitCount_17 : Dc b_Integer_bitCount 17 .iushr 1 18 := ⟨by decide +kernel, rfl⟩
theorem d_Integer_bitCount_18 : Dc b_Integer_bitCount 18 (.ldc_w 266) 3 21 := ⟨by decide +kernel, rfl⟩
theorem d_Integer_bitCount_21 : Dc b_Integer_bitCount 21 .iand 1 22 := ⟨by decide +kernel, rfl⟩
theorem d_Integer_bitCount_22 : Dc b_Integer_bitCount 22 .iadd 1 23 := ⟨by decide +kernel, rfl⟩
theorem d_Integer_bitCount_23 : Dc b_Integer_bitCount 23 (.istore_n 0) 1 24 := ⟨by decide +kernel, rfl⟩
theorem d_Integer_bitCount_24 : Dc b_Integer_bitCount 24 (.iload_n 0) 1 25 := ⟨by decide +kernel, rfl⟩
theorem d_Integer_bitCount_25 : Dc b_Integer_bitCount 25 (.iload_n 0) 1 26 := ⟨by decide +kernel, rfl⟩
theorem d_Integer_bitCount_26 : Dc b_Integer_bitCount 26 (.iconst 4) 1 27 := ⟨by decide +kernel, rfl⟩
theorem d_Integer_bitCount_27 : Dc b_Integer_bitCount 27 .iushr 1 28 := ⟨by decide +kernel, rfl⟩
theorem d_Integer_bitCount_28 : Dc b_Integer_bitCount 28 .iadd 1 29 := ⟨by decide +kernel, rfl⟩
theorem d_Integer_bitCount_29 : Dc b_Integer_bitCount 29 (.ldc_w 267) 3 32 := ⟨by decide +kernel, rfl⟩
theorem d_Integer_bitCount_32 : Dc b_Integer_bitCount 32 .iand 1 33 := ⟨by decide +kernel, rfl⟩
theorem d_Integer_bitCount_33 : Dc b_Integer_bitCount 33 (.istore_n 0) 1 34 := ⟨by decide +kernel, rfl⟩
theorem d_Integer_bitCount_34 : Dc b_Integer_bitCount 34 (.iload_n 0) 1 35 := ⟨by decide +kernel, rfl⟩
theorem d_Integer_bitCount_35 : Dc b_Integer_bitCount 35 (.iload_n 0) 1 36 := ⟨by decide +kernel, rfl⟩
theorem d_Integer_bitCount_36 : Dc b_Integer_bitCount 36 (.bipush 8) 2 38 := ⟨by decide +kernel, rfl⟩
theorem d_Integer_bitCount_38 : Dc b_Integer_bitCount 38 .iushr 1 39 := ⟨by decide +kernel, rfl⟩
theorem d_Integer_bitCount_39 : Dc b_Integer_bitCount 39 .iadd 1 40 := ⟨by decide +kernel, rfl⟩
theorem d_Integer_bitCount_40 : Dc b_Integer_bitCount 40 (.istore_n 0) 1 41 := ⟨by decide +kernel, rfl⟩
theorem d_Integer_bitCount_41 : Dc b_Integer_bitCount 41 (.iload_n 0) 1 42 := ⟨by decide +kernel, rfl⟩
theorem d_Integer_bitCount_42 : Dc b_Integer_bitCount 42 (.iload_n 0) 1 43 := ⟨by decide +kernel, rfl⟩
theorem d_Integer_bitCount_43 : Dc b_Integer_bitCount 43 (.bipush 16) 2 45 := ⟨by decide +kernel, rfl⟩
theorem d_Integer_bitCount_45 : Dc b_Integer_bitCount 45 .iushr 1 46 := ⟨by decide +kernel, rfl⟩
theorem d_Integer_bitCount_46 : Dc b_Integer_bitCount 46 .iadd 1 47 := ⟨by decide +kernel, rfl⟩
theorem d_Integer_bitCount_47 : Dc b_Integer_bitCount 47 (.istore_n 0) 1 48 := ⟨by decide +kernel, rfl⟩
theorem d_Integer_bitCount_48 : Dc b_Integer_bitCount 48 (.iload_n 0) 1 49 := ⟨by decide +kernel, rfl⟩
theorem d_Integer_bitCount_49 : Dc b_Integer_bitCount 49 (.bipush 63) 2 51 := ⟨by decide +kernel, rfl⟩
theorem d_Integer_bitCount_51 : Dc b_Integer_bitCount 51 .iand 1 52 := ⟨by decide +kernel, rfl⟩
theorem d_Integer_bitCount_52 : Dc b_Integer_bitCount 52 .ireturn 1 53 := ⟨by decide +kernel, rfl⟩
abbrev b_Arrays_copyOf : ByteArray := prog_31_method_123_code
def y_Arrays_copyOf : MethodName := ⟨"java/util/Arrays", "copyOf", "([II)[I"⟩
theorem d_Arrays_copyOf_0 : Dc b_Arrays_copyOf 0 (.iload_n 1) 1 1 := ⟨by decide +kernel, rfl⟩
theorem d_Arrays_copyOf_1 : Dc b_Arrays_copyOf 1 (.aload_n 0) 1 2 := ⟨by decide +kernel, rfl⟩
theorem d_Arrays_copyOf_2 : Dc b_Arrays_copyOf 2 .arraylength 1 3 := ⟨by decide +kernel, rfl⟩
theorem d_Arrays_copyOf_3 : Dj b_Arrays_copyOf 3 (.if_icmp .ne) 14 6 := ⟨11, by decide +kernel, by decide, rfl⟩
theorem d_Arrays_copyOf_6 : Dc b_Arrays_copyOf 6 (.aload_n 0) 1 7 := ⟨by decide +kernel, rfl⟩
theorem d_Arrays_copyOf_7 : Dc b_Arrays_copyOf 7 (.invokevirtual 316) 3 10 := ⟨by decide +kernel, rfl⟩
theorem d_Arrays_copyOf_10 : Dc b_Arrays_copyOf 10 (.checkcast 317) 3 13 := ⟨by decide +kernel, rfl⟩
theorem d_Arrays_copyOf_13 : Dc b_Arrays_copyOf 13 .areturn 1 14 := ⟨by decide +kernel, rfl⟩
theorem d_Arrays_copyOf_14 : Dc b_Arrays_copyOf 14 (.iload_n 1) 1 15 := ⟨by decide +kernel, rfl⟩
theorem d_Arrays_copyOf_15 : Dc b_Arrays_copyOf 15 (.newarray .int) 2 17 := ⟨by decide +kernel, rfl⟩
theorem d_Arrays_copyOf_17 : Dc b_Arrays_copyOf 17 (.astore_n 2) 1 18 := ⟨by decide +kernel, rfl⟩
theorem d_Arrays_copyOf_18 : Dc b_Arrays_copyOf 18 (.aload_n 0) 1 19 := ⟨by decide +kernel, rfl⟩
theorem d_Arrays_copyOf_19 : Dc b_Arrays_copyOf 19 (.iconst 0) 1 20 := ⟨by decide +kernel, rfl⟩
theorem d_Arrays_copyOf_20 : Dc b_Arrays_copyOf 20 (.aload_n 2) 1 21 := ⟨by decide +kernel, rfl⟩
theorem d_Arrays_copyOf_21 : Dc b_Arrays_copyOf 21 (.iconst 0) 1 22 := ⟨by decide +kernel, rfl⟩
theorem d_Arrays_copyOf_22 : Dc b_Arrays_copyOf 22 (.aload_n 0) 1 23 := ⟨by decide +kernel, rfl⟩
theorem d_Arrays_copyOf_23 : Dc b_Arrays_copyOf 23 .arraylength 1 24 := ⟨by decide +kernel, rfl⟩
theorem d_Arrays_copyOf_24 : Dc b_Arrays_copyOf 24 (.iload_n 1) 1 25 := ⟨by decide +kernel, rfl⟩
theorem d_Arrays_copyOf_25 : Dc b_Arrays_copyOf 25 (.invokestatic 304) 3 28 := ⟨by decide +kernel, rfl⟩
theorem d_Arrays_copyOf_28 : Dc b_Arrays_copyOf 28 (.invokestatic 150) 3 31 := ⟨by decide +kernel, rfl⟩
theorem d_Arrays_copyOf_31 : Dc b_Arrays_copyOf 31 (.aload_n 2) 1 32 := ⟨by decide +kernel, rfl⟩
theorem d_Arrays_copyOf_32 : Dc b_Arrays_copyOf 32 .areturn 1 33 := ⟨by decide +kernel, rfl⟩
abbrev b_Math_floorMod : ByteArray := prog_26_method_50_code
def y_Math_floorMod : MethodName := ⟨"java/lang/Math", "floorMod", "(II)I"⟩
theorem d_Math_floorMod_0 : Dc b_Math_floorMod 0 (.iload_n 0) 1 1 := ⟨by decide +kernel, rfl⟩
theorem d_Math_floorMod_1 : Dc b_Math_floorMod 1 (.iload_n 1) 1 2 := ⟨by decide +kernel, rfl⟩
theorem d_Math_floorMod_2 : Dc b_Math_floorMod 2 .irem 1 3 := ⟨by decide +kernel, rfl⟩
theorem d_Math_floorMod_3 : Dc b_Math_floorMod 3 (.istore_n 2) 1 4 := ⟨by decide +kernel, rfl⟩
theorem d_Math_floorMod_4 : Dc b_Math_floorMod 4 (.iload_n 0) 1 5 := ⟨by decide +kernel, rfl⟩
theorem d_Math_floorMod_5 : Dc b_Math_floorMod 5 (.iload_n 1) 1 6 := ⟨by decide +kernel, rfl⟩
theorem d_Math_floorMod_6 : Dc b_Math_floorMod 6 .ixor 1 7 := ⟨by decide +kernel, rfl⟩
theorem d_Math_floorMod_7 : Dj b_Math_floorMod 7 (.ifCond .ge) 18 10 := ⟨11, by decide +kernel, by decide, rfl⟩
theorem d_Math_floorMod_10 : Dc b_Math_floorMod 10 (.iload_n 2) 1 11 := ⟨by decide +kernel, rfl⟩
theorem d_Math_floorMod_11 : Dj b_Math_floorMod 11 (.ifCond .eq) 18 14 := ⟨7, by decide +kernel, by decide, rfl⟩
theorem d_Math_floorMod_14 : Dc b_Math_floorMod 14 (.iload_n 2) 1 15 := ⟨by decide +kernel, rfl⟩
theorem d_Math_floorMod_15 : Dc b_Math_floorMod 15 (.iload_n 1) 1 16 := ⟨by decide +kernel, rfl⟩
theorem d_Math_floorMod_16 : Dc b_Math_floorMod 16 .iadd 1 17 := ⟨by decide +kernel, rfl⟩
theorem d_Math_floorMod_17 : Dc b_Math_floorMod 17 .ireturn 1 18 := ⟨by decide +kernel, rfl⟩
theorem d_Math_floorMod_18 : Dc b_Math_floorMod 18 (.iload_n 2) 1 19 := ⟨by decide +kernel, rfl⟩
theorem d_Math_floorMod_19 : Dc b_Math_floorMod 19 .ireturn 1 20 := ⟨by decide +kernel, rfl⟩
abbrev b_Law_below : ByteArray := method_2_code
def y_Law_below : MethodName := ⟨"BinWardLaw", "below", "(II)I"⟩
theorem d_Law_below_0 : Dc b_Law_below 0 (.iload_n 0) 1 1 := ⟨by decide +kernel, rfl⟩
theorem d_Law_below_1 : Dc b_Law_below 1 (.ldc 7) 2 3 := ⟨by decide +kernel, rfl⟩
theorem d_Law_below_3 : Dc b_Law_below 3 .iand 1 4 := ⟨by decide +kernel, rfl⟩
theorem d_Law_below_4 : Dc b_Law_below 4 (.iload_n 1) 1 5 := ⟨by decide +kernel, rfl⟩
theorem d_Law_below_5 : Dc b_Law_below 5 .irem 1 6 := ⟨by decide +kernel, rfl⟩
theorem d_Law_below_6 : Dc b_Law_below 6 .ireturn 1 7 := ⟨by decide +kernel, rfl⟩
abbrev b_Law_cell : ByteArray := method_3_code
def y_Law_cell : MethodName := ⟨"BinWardLaw", "cell", "([II)I"⟩
theorem d_Law_cell_0 : Dc b_Law_cell 0 (.iload_n 1) 1 1 := ⟨by decide +kernel, rfl⟩
theorem d_Law_cell_1 : Dc b_Law_cell 1 (.aload_n 0) 1 2 := ⟨by decide +kernel, rfl⟩
theorem d_Law_cell_2 : Dc b_Law_cell 2 .arraylength 1 3 := ⟨by decide +kernel, rfl⟩
theorem d_Law_cell_3 : Dj b_Law_cell 3 (.if_icmp .ge) 12 6 := ⟨9, by decide +kernel, by decide, rfl⟩
theorem d_Law_cell_6 : Dc b_Law_cell 6 (.aload_n 0) 1 7 := ⟨by decide +kernel, rfl⟩
theorem d_Law_cell_7 : Dc b_Law_cell 7 (.iload_n 1) 1 8 := ⟨by decide +kernel, rfl⟩
theorem d_Law_cell_8 : Dc b_Law_cell 8 .iaload 1 9 := ⟨by decide +kernel, rfl⟩
theorem d_Law_cell_9 : Dj b_Law_cell 9 .goto 18 12 := ⟨9, by decide +kernel, by decide, rfl⟩
theorem d_Law_cell_12 : Dc b_Law_cell 12 (.ldc 8) 2 14 := ⟨by decide +kernel, rfl⟩
theorem d_Law_cell_14 : Dc b_Law_cell 14 (.iload_n 1) 1 15 := ⟨by decide +kernel, rfl⟩
theorem d_Law_cell_15 : Dc b_Law_cell 15 (.iconst 3) 1 16 := ⟨by decide +kernel, rfl⟩
theorem d_Law_cell_16 : Dc b_Law_cell 16 .iadd 1 17 := ⟨by decide +kernel, rfl⟩
theorem d_Law_cell_17 : Dc b_Law_cell 17 .imul 1 18 := ⟨by decide +kernel, rfl⟩
theorem d_Law_cell_18 : Dc b_Law_cell 18 .ireturn 1 19 := ⟨by decide +kernel, rfl⟩
abbrev b_Law_comes : ByteArray := method_5_code
def y_Law_comes : MethodName := ⟨"BinWardLaw", "comes", "(LBinWard;II)I"⟩
theorem d_Law_comes_0 : Dc b_Law_comes 0 (.iconst 0) 1 1 := ⟨by decide +kernel, rfl⟩
theorem d_Law_comes_1 : Dc b_Law_comes 1 (.istore_n 3) 1 2 := ⟨by decide +kernel, rfl⟩
theorem d_Law_comes_2 : Dc b_Law_comes 2 (.iconst 0) 1 3 := ⟨by decide +kernel, rfl⟩
theorem d_Law_comes_3 : Dc b_Law_comes 3 (.istore 4) 2 5 := ⟨by decide +kernel, rfl⟩
theorem d_Law_comes_5 : Dc b_Law_comes 5 (.iload 4) 2 7 := ⟨by decide +kernel, rfl⟩
theorem d_Law_comes_7 : Dc b_Law_comes 7 (.iload_n 1) 1 8 := ⟨by decide +kernel, rfl⟩
theorem d_Law_comes_8 : Dj b_Law_comes 8 (.if_icmp .ge) 47 11 := ⟨39, by decide +kernel, by decide, rfl⟩
theorem d_Law_comes_11 : Dc b_Law_comes 11 (.iconst 0) 1 12 := ⟨by decide +kernel, rfl⟩
theorem d_Law_comes_12 : Dc b_Law_comes 12 (.istore 5) 2 14 := ⟨by decide +kernel, rfl⟩
theorem d_Law_comes_14 : Dc b_Law_comes 14 (.iload 5) 2 16 := ⟨by decide +kernel, rfl⟩
theorem d_Law_comes_16 : Dc b_Law_comes 16 (.iconst 3) 1 17 := ⟨by decide +kernel, rfl⟩
theorem d_Law_comes_17 : Dj b_Law_comes 17 (.if_icmp .ge) 41 20 := ⟨24, by decide +kernel, by decide, rfl⟩
theorem d_Law_comes_20 : Dc b_Law_comes 20 (.iload_n 3) 1 21 := ⟨by decide +kernel, rfl⟩
theorem d_Law_comes_21 : Dc b_Law_comes 21 (.iload_n 2) 1 22 := ⟨by decide +kernel, rfl⟩
theorem d_Law_comes_22 : Dc b_Law_comes 22 (.aload_n 0) 1 23 := ⟨by decide +kernel, rfl⟩
theorem d_Law_comes_23 : Dc b_Law_comes 23 (.iload 4) 2 25 := ⟨by decide +kernel, rfl⟩
theorem d_Law_comes_25 : Dc b_Law_comes 25 (.iconst 3) 1 26 := ⟨by decide +kernel, rfl⟩
theorem d_Law_comes_26 : Dc b_Law_comes 26 (.iload 5) 2 28 := ⟨by decide +kernel, rfl⟩
theorem d_Law_comes_28 : Dc b_Law_comes 28 .iadd 1 29 := ⟨by decide +kernel, rfl⟩
theorem d_Law_comes_29 : Dc b_Law_comes 29 (.invokevirtual 51) 3 32 := ⟨by decide +kernel, rfl⟩
theorem d_Law_comes_32 : Dc b_Law_comes 32 .imul 1 33 := ⟨by decide +kernel, rfl⟩
theorem d_Law_comes_33 : Dc b_Law_comes 33 .iadd 1 34 := ⟨by decide +kernel, rfl⟩
theorem d_Law_comes_34 : Dc b_Law_comes 34 (.istore_n 3) 1 35 := ⟨by decide +kernel, rfl⟩
theorem d_Law_comes_35 : Dc b_Law_comes 35 (.iinc 5 1) 3 38 := ⟨by decide +kernel, rfl⟩
theorem d_Law_comes_38 : Dj b_Law_comes 38 .goto 14 41 := ⟨-24, by decide +kernel, by decide, rfl⟩
theorem d_Law_comes_41 : Dc b_Law_comes 41 (.iinc 4 1) 3 44 := ⟨by decide +kernel, rfl⟩
theorem d_Law_comes_44 : Dj b_Law_comes 44 .goto 5 47 := ⟨-39, by decide +kernel, by decide, rfl⟩
theorem d_Law_comes_47 : Dc b_Law_comes 47 (.iload_n 3) 1 48 := ⟨by decide +kernel, rfl⟩
theorem d_Law_comes_48 : Dc b_Law_comes 48 .ireturn 1 49 := ⟨by decide +kernel, rfl⟩
abbrev b_Law_isBest : ByteArray := method_7_code
def y_Law_isBest : MethodName := ⟨"BinWardLaw", "isBest", "(LBinWard;I)Z"⟩
theorem d_Law_isBest_0 : Dc b_Law_isBest 0 (.aload_n 0) 1 1 := ⟨by decide +kernel, rfl⟩
theorem d_Law_isBest_1 : Dc b_Law_isBest 1 (.iconst 0) 1 2 := ⟨by decide +kernel, rfl⟩
theorem d_Law_isBest_2 : Dc b_Law_isBest 2 (.invokevirtual 57) 3 5 := ⟨by decide +kernel, rfl⟩
theorem d_Law_isBest_5 : Dc b_Law_isBest 5 (.iconst 1) 1 6 := ⟨by decide +kernel, rfl⟩
theorem d_Law_isBest_6 : Dc b_Law_isBest 6 .iadd 1 7 := ⟨by decide +kernel, rfl⟩
theorem d_Law_isBest_7 : Dc b_Law_isBest 7 (.bipush 7) 2 9 := ⟨by decide +kernel, rfl⟩
theorem d_Law_isBest_9 : Dc b_Law_isBest 9 .irem 1 10 := ⟨by decide +kernel, rfl⟩
theorem d_Law_isBest_10 : Dc b_Law_isBest 10 (.istore_n 2) 1 11 := ⟨by decide +kernel, rfl⟩
theorem d_Law_isBest_11 : Dc b_Law_isBest 11 (.aload_n 0) 1 12 := ⟨by decide +kernel, rfl⟩
theorem d_Law_isBest_12 : Dc b_Law_isBest 12 (.iload_n 1) 1 13 := ⟨by decide +kernel, rfl⟩
theorem d_Law_isBest_13 : Dc b_Law_isBest 13 (.invokevirtual 113) 3 16 := ⟨by decide +kernel, rfl⟩
theorem d_Law_isBest_16 : Dc b_Law_isBest 16 (.istore_n 3) 1 17 := ⟨by decide +kernel, rfl⟩
theorem d_Law_isBest_17 : Dc b_Law_isBest 17 (.aload_n 0) 1 18 := ⟨by decide +kernel, rfl⟩
theorem d_Law_isBest_18 : Dc b_Law_isBest 18 (.iload_n 1) 1 19 := ⟨by decide +kernel, rfl⟩
theorem d_Law_isBest_19 : Dc b_Law_isBest 19 (.invokevirtual 93) 3 22 := ⟨by decide +kernel, rfl⟩
theorem d_Law_isBest_22 : Dc b_Law_isBest 22 (.istore 4) 2 24 := ⟨by decide +kernel, rfl⟩
theorem d_Law_isBest_24 : Dc b_Law_isBest 24 (.aload_n 0) 1 25 := ⟨by decide +kernel, rfl⟩
theorem d_Law_isBest_25 : Dc b_Law_isBest 25 (.iload_n 1) 1 26 := ⟨by decide +kernel, rfl⟩
theorem d_Law_isBest_26 : Dc b_Law_isBest 26 (.bipush 6) 2 28 := ⟨by decide +kernel, rfl⟩
theorem d_Law_isBest_28 : Dc b_Law_isBest 28 (.invokevirtual 116) 3 31 := ⟨by decide +kernel, rfl⟩
theorem d_Law_isBest_31 : Dc b_Law_isBest 31 (.istore 5) 2 33 := ⟨by decide +kernel, rfl⟩
theorem d_Law_isBest_33 : Dc b_Law_isBest 33 (.iload_n 3) 1 34 := ⟨by decide +kernel, rfl⟩
theorem d_Law_isBest_34 : Dc b_Law_isBest 34 (.iconst 1) 1 35 := ⟨by decide +kernel, rfl⟩
theorem d_Law_isBest_35 : Dj b_Law_isBest 35 (.if_icmp .ne) 42 38 := ⟨7, by decide +kernel, by decide, rfl⟩
theorem d_Law_isBest_38 : Dc b_Law_isBest 38 (.iconst 1) 1 39 := ⟨by decide +kernel, rfl⟩
theorem d_Law_isBest_39 : Dj b_Law_isBest 39 .goto 43 42 := ⟨4, by decide +kernel, by decide, rfl⟩
theorem d_Law_isBest_42 : Dc b_Law_isBest 42 (.iconst 0) 1 43 := ⟨by decide +kernel, rfl⟩
theorem d_Law_isBest_43 : Dc b_Law_isBest 43 (.iload 4) 2 45 := ⟨by decide +kernel, rfl⟩
theorem d_Law_isBest_45 : Dj b_Law_isBest 45 (.ifCond .ne) 52 48 := ⟨7, by decide +kernel, by decide, rfl⟩
theorem d_Law_isBest_48 : Dc b_Law_isBest 48 (.iconst 1) 1 49 := ⟨by decide +kernel, rfl⟩
theorem d_Law_isBest_49 : Dj b_Law_isBest 49 .goto 53 52 := ⟨4, by decide +kernel, by decide, rfl⟩
theorem d_Law_isBest_52 : Dc b_Law_isBest 52 (.iconst 0) 1 53 := ⟨by decide +kernel, rfl⟩
theorem d_Law_isBest_53 : Dj b_Law_isBest 53 (.if_icmp .ne) 76 56 := ⟨23, by decide +kernel, by decide, rfl⟩
theorem d_Law_isBest_56 : Dc b_Law_isBest 56 (.aload_n 0) 1 57 := ⟨by decide +kernel, rfl⟩
theorem d_Law_isBest_57 : Dc b_Law_isBest 57 (.iload_n 1) 1 58 := ⟨by decide +kernel, rfl⟩
theorem d_Law_isBest_58 : Dc b_Law_isBest 58 (.iload_n 2) 1 59 := ⟨by decide +kernel, rfl⟩
theorem d_Law_isBest_59 : Dc b_Law_isBest 59 (.invokevirtual 45) 3 62 := ⟨by decide +kernel, rfl⟩
theorem d_Law_isBest_62 : Dj b_Law_isBest 62 (.ifCond .lt) 76 65 := ⟨14, by decide +kernel, by decide, rfl⟩
theorem d_Law_isBest_65 : Dc b_Law_isBest 65 (.aload_n 0) 1 66 := ⟨by decide +kernel, rfl⟩
theorem d_Law_isBest_66 : Dc b_Law_isBest 66 (.iconst 1) 1 67 := ⟨by decide +kernel, rfl⟩
theorem d_Law_isBest_67 : Dc b_Law_isBest 67 (.iload_n 1) 1 68 := ⟨by decide +kernel, rfl⟩
theorem d_Law_isBest_68 : Dc b_Law_isBest 68 .isub 1 69 := ⟨by decide +kernel, rfl⟩
theorem d_Law_isBest_69 : Dc b_Law_isBest 69 (.iload_n 2) 1 70 := ⟨by decide +kernel, rfl⟩
theorem d_Law_isBest_70 : Dc b_Law_isBest 70 (.invokevirtual 45) 3 73 := ⟨by decide +kernel, rfl⟩
theorem d_Law_isBest_73 : Dj b_Law_isBest 73 (.ifCond .ge) 78 76 := ⟨5, by decide +kernel, by decide, rfl⟩
theorem d_Law_isBest_76 : Dc b_Law_isBest 76 (.iconst 0) 1 77 := ⟨by decide +kernel, rfl⟩
theorem d_Law_isBest_77 : Dc b_Law_isBest 77 .ireturn 1 78 := ⟨by decide +kernel, rfl⟩
theorem d_Law_isBest_78 : Dc b_Law_isBest 78 (.iconst 0) 1 79 := ⟨by decide +kernel, rfl⟩
theorem d_Law_isBest_79 : Dc b_Law_isBest 79 (.istore 6) 2 81 := ⟨by decide +kernel, rfl⟩
theorem d_Law_isBest_81 : Dc b_Law_isBest 81 (.ldc 119) 2 83 := ⟨by decide +kernel, rfl⟩
theorem d_Law_isBest_83 : Dc b_Law_isBest 83 (.istore 7) 2 85 := ⟨by decide +kernel, rfl⟩
theorem d_Law_isBest_85 : Dc b_Law_isBest 85 (.iload 7) 2 87 := ⟨by decide +kernel, rfl⟩
theorem d_Law_isBest_87 : Dj b_Law_isBest 87 (.ifCond .le) 132 90 := ⟨45, by decide +kernel, by decide, rfl⟩
theorem d_Law_isBest_90 : Dc b_Law_isBest 90 (.iload_n 3) 1 91 := ⟨by decide +kernel, rfl⟩
theorem d_Law_isBest_91 : Dc b_Law_isBest 91 (.iload 7) 2 93 := ⟨by decide +kernel, rfl⟩
theorem d_Law_isBest_93 : Dc b_Law_isBest 93 .idiv 1 94 := ⟨by decide +kernel, rfl⟩
theorem d_Law_isBest_94 : Dc b_Law_isBest 94 (.bipush 10) 2 96 := ⟨by decide +kernel, rfl⟩
theorem d_Law_isBest_96 : Dj b_Law_isBest 96 (.if_icmp .lt) 122 99 := ⟨26, by decide +kernel, by decide, rfl⟩
theorem d_Law_isBest_99 : Dc b_Law_isBest 99 (.aload_n 0) 1 100 := ⟨by decide +kernel, rfl⟩
theorem d_Law_isBest_100 : Dc b_Law_isBest 100 (.iload_n 1) 1 101 := ⟨by decide +kernel, rfl⟩
theorem d_Law_isBest_101 : Dc b_Law_isBest 101 (.iload_n 2) 1 102 := ⟨by decide +kernel, rfl⟩
theorem d_Law_isBest_102 : Dc b_Law_isBest 102 (.iload_n 3) 1 103 := ⟨by decide +kernel, rfl⟩
theorem d_Law_isBest_103 : Dc b_Law_isBest 103 (.iload 7) 2 105 := ⟨by decide +kernel, rfl⟩
theorem d_Law_isBest_105 : Dc b_Law_isBest 105 .idiv 1 106 := ⟨by decide +kernel, rfl⟩
theorem d_Law_isBest_106 : Dc b_Law_isBest 106 (.bipush 10) 2 108 := ⟨by decide +kernel, rfl⟩
theorem d_Law_isBest_108 : Dc b_Law_isBest 108 .irem 1 109 := ⟨by decide +kernel, rfl⟩
theorem d_Law_isBest_109 : Dc b_Law_isBest 109 (.invokevirtual 48) 3 112 := ⟨by decide +kernel, rfl⟩
theorem d_Law_isBest_112 : Dc b_Law_isBest 112 (.iinc 6 1) 3 115 := ⟨by decide +kernel, rfl⟩
theorem d_Law_isBest_115 : Dc b_Law_isBest 115 (.iload 6) 2 117 := ⟨by decide +kernel, rfl⟩
theorem d_Law_isBest_117 : Dj b_Law_isBest 117 (.if_icmp .eq) 122 120 := ⟨5, by decide +kernel, by decide, rfl⟩
theorem d_Law_isBest_120 : Dc b_Law_isBest 120 (.iconst 0) 1 121 := ⟨by decide +kernel, rfl⟩
theorem d_Law_isBest_121 : Dc b_Law_isBest 121 .ireturn 1 122 := ⟨by decide +kernel, rfl⟩
theorem d_Law_isBest_122 : Dc b_Law_isBest 122 (.iload 7) 2 124 := ⟨by decide +kernel, rfl⟩
theorem d_Law_isBest_124 : Dc b_Law_isBest 124 (.bipush 10) 2 126 := ⟨by decide +kernel, rfl⟩
theorem d_Law_isBest_126 : Dc b_Law_isBest 126 .idiv 1 127 := ⟨by decide +kernel, rfl⟩
theorem d_Law_isBest_127 : Dc b_Law_isBest 127 (.istore 7) 2 129 := ⟨by decide +kernel, rfl⟩
theorem d_Law_isBest_129 : Dj b_Law_isBest 129 .goto 85 132 := ⟨-44, by decide +kernel, by decide, rfl⟩
theorem d_Law_isBest_132 : Dc b_Law_isBest 132 (.aload_n 0) 1 133 := ⟨by decide +kernel, rfl⟩
theorem d_Law_isBest_133 : Dc b_Law_isBest 133 (.iconst 1) 1 134 := ⟨by decide +kernel, rfl⟩
theorem d_Law_isBest_134 : Dc b_Law_isBest 134 (.invokevirtual 105) 3 137 := ⟨by decide +kernel, rfl⟩
theorem d_Law_isBest_137 : Dc b_Law_isBest 137 (.iload 4) 2 139 := ⟨by decide +kernel, rfl⟩
theorem d_Law_isBest_139 : Dj b_Law_isBest 139 (.if_icmp .lt) 157 142 := ⟨18, by decide +kernel, by decide, rfl⟩
theorem d_Law_isBest_142 : Dc b_Law_isBest 142 (.aload_n 0) 1 143 := ⟨by decide +kernel, rfl⟩
theorem d_Law_isBest_143 : Dc b_Law_isBest 143 (.iload_n 1) 1 144 := ⟨by decide +kernel, rfl⟩
theorem d_Law_isBest_144 : Dc b_Law_isBest 144 (.bipush 6) 2 146 := ⟨by decide +kernel, rfl⟩
theorem d_Law_isBest_146 : Dc b_Law_isBest 146 (.invokevirtual 116) 3 149 := ⟨by decide +kernel, rfl⟩
theorem d_Law_isBest_149 : Dc b_Law_isBest 149 (.iload 5) 2 151 := ⟨by decide +kernel, rfl⟩
theorem d_Law_isBest_151 : Dc b_Law_isBest 151 (.iload 4) 2 153 := ⟨by decide +kernel, rfl⟩
theorem d_Law_isBest_153 : Dc b_Law_isBest 153 .iadd 1 154 := ⟨by decide +kernel, rfl⟩
theorem d_Law_isBest_154 : Dj b_Law_isBest 154 (.if_icmp .ge) 159 157 := ⟨5, by decide +kernel, by decide, rfl⟩
theorem d_Law_isBest_157 : Dc b_Law_isBest 157 (.iconst 0) 1 158 := ⟨by decide +kernel, rfl⟩
theorem d_Law_isBest_158 : Dc b_Law_isBest 158 .ireturn 1 159 := ⟨by decide +kernel, rfl⟩
theorem d_Law_isBest_159 : Dc b_Law_isBest 159 (.iload 6) 2 161 := ⟨by decide +kernel, rfl⟩
theorem d_Law_isBest_161 : Dj b_Law_isBest 161 (.ifCond .eq) 190 164 := ⟨29, by decide +kernel, by decide, rfl⟩
theorem d_Law_isBest_164 : Dc b_Law_isBest 164 (.aload_n 0) 1 165 := ⟨by decide +kernel, rfl⟩
theorem d_Law_isBest_165 : Dc b_Law_isBest 165 (.iload_n 1) 1 166 := ⟨by decide +kernel, rfl⟩
theorem d_Law_isBest_166 : Dc b_Law_isBest 166 (.iconst 4) 1 167 := ⟨by decide +kernel, rfl⟩
theorem d_Law_isBest_167 : Dc b_Law_isBest 167 (.invokevirtual 116) 3 170 := ⟨by decide +kernel, rfl⟩
theorem d_Law_isBest_170 : Dc b_Law_isBest 170 (.iload 6) 2 172 := ⟨by decide +kernel, rfl⟩
theorem d_Law_isBest_172 : Dj b_Law_isBest 172 (.if_icmp .ne) 194 175 := ⟨22, by decide +kernel, by decide, rfl⟩
theorem d_Law_isBest_175 : Dc b_Law_isBest 175 (.aload_n 0) 1 176 := ⟨by decide +kernel, rfl⟩
theorem d_Law_isBest_176 : Dc b_Law_isBest 176 (.iload_n 1) 1 177 := ⟨by decide +kernel, rfl⟩
theorem d_Law_isBest_177 : Dc b_Law_isBest 177 (.iconst 3) 1 178 := ⟨by decide +kernel, rfl⟩
theorem d_Law_isBest_178 : Dc b_Law_isBest 178 (.invokevirtual 116) 3 181 := ⟨by decide +kernel, rfl⟩
theorem d_Law_isBest_181 : Dc b_Law_isBest 181 (.aload_n 0) 1 182 := ⟨by decide +kernel, rfl⟩
theorem d_Law_isBest_182 : Dc b_Law_isBest 182 (.iload_n 1) 1 183 := ⟨by decide +kernel, rfl⟩
theorem d_Law_isBest_183 : Dc b_Law_isBest 183 (.iconst 0) 1 184 := ⟨by decide +kernel, rfl⟩
theorem d_Law_isBest_184 : Dc b_Law_isBest 184 (.invokevirtual 116) 3 187 := ⟨by decide +kernel, rfl⟩
theorem d_Law_isBest_187 : Dj b_Law_isBest 187 (.if_icmp .gt) 194 190 := ⟨7, by decide +kernel, by decide, rfl⟩
theorem d_Law_isBest_190 : Dc b_Law_isBest 190 (.iconst 1) 1 191 := ⟨by decide +kernel, rfl⟩
theorem d_Law_isBest_191 : Dj b_Law_isBest 191 .goto 195 194 := ⟨4, by decide +kernel, by decide, rfl⟩
theorem d_Law_isBest_194 : Dc b_Law_isBest 194 (.iconst 0) 1 195 := ⟨by decide +kernel, rfl⟩
theorem d_Law_isBest_195 : Dc b_Law_isBest 195 .ireturn 1 196 := ⟨by decide +kernel, rfl⟩
abbrev b_Law_isPassed : ByteArray := method_6_code
def y_Law_isPassed : MethodName := ⟨"BinWardLaw", "isPassed", "(LBinWard;II)Z"⟩
theorem d_Law_isPassed_0 : Dc b_Law_isPassed 0 (.aload_n 0) 1 1 := ⟨by decide +kernel, rfl⟩
theorem d_Law_isPassed_1 : Dc b_Law_isPassed 1 (.iload_n 2) 1 2 := ⟨by decide +kernel, rfl⟩
theorem d_Law_isPassed_2 : Dc b_Law_isPassed 2 (.invokevirtual 90) 3 5 := ⟨by decide +kernel, rfl⟩
theorem d_Law_isPassed_5 : Dc b_Law_isPassed 5 (.istore_n 3) 1 6 := ⟨by decide +kernel, rfl⟩
theorem d_Law_isPassed_6 : Dc b_Law_isPassed 6 (.aload_n 0) 1 7 := ⟨by decide +kernel, rfl⟩
theorem d_Law_isPassed_7 : Dc b_Law_isPassed 7 (.bipush 16) 2 9 := ⟨by decide +kernel, rfl⟩
theorem d_Law_isPassed_9 : Dc b_Law_isPassed 9 (.invokevirtual 57) 3 12 := ⟨by decide +kernel, rfl⟩
theorem d_Law_isPassed_12 : Dc b_Law_isPassed 12 (.istore 4) 2 14 := ⟨by decide +kernel, rfl⟩
theorem d_Law_isPassed_14 : Dc b_Law_isPassed 14 (.iconst 3) 1 15 := ⟨by decide +kernel, rfl⟩
theorem d_Law_isPassed_15 : Dc b_Law_isPassed 15 (.iload_n 1) 1 16 := ⟨by decide +kernel, rfl⟩
theorem d_Law_isPassed_16 : Dc b_Law_isPassed 16 .imul 1 17 := ⟨by decide +kernel, rfl⟩
theorem d_Law_isPassed_17 : Dc b_Law_isPassed 17 (.newarray .int) 2 19 := ⟨by decide +kernel, rfl⟩
theorem d_Law_isPassed_19 : Dc b_Law_isPassed 19 (.astore 5) 2 21 := ⟨by decide +kernel, rfl⟩
theorem d_Law_isPassed_21 : Dc b_Law_isPassed 21 (.iconst 0) 1 22 := ⟨by decide +kernel, rfl⟩
theorem d_Law_isPassed_22 : Dc b_Law_isPassed 22 (.istore 6) 2 24 := ⟨by decide +kernel, rfl⟩
theorem d_Law_isPassed_24 : Dc b_Law_isPassed 24 (.iload 6) 2 26 := ⟨by decide +kernel, rfl⟩
theorem d_Law_isPassed_26 : Dc b_Law_isPassed 26 (.aload 5) 2 28 := ⟨by decide +kernel, rfl⟩
theorem d_Law_isPassed_28 : Dc b_Law_isPassed 28 .arraylength 1 29 := ⟨by decide +kernel, rfl⟩
theorem d_Law_isPassed_29 : Dj b_Law_isPassed 29 (.if_icmp .ge) 55 32 := ⟨26, by decide +kernel, by decide, rfl⟩
theorem d_Law_isPassed_32 : Dc b_Law_isPassed 32 (.aload 5) 2 34 := ⟨by decide +kernel, rfl⟩
theorem d_Law_isPassed_34 : Dc b_Law_isPassed 34 (.iload 6) 2 36 := ⟨by decide +kernel, rfl⟩
theorem d_Law_isPassed_36 : Dc b_Law_isPassed 36 (.aload_n 0) 1 37 := ⟨by decide +kernel, rfl⟩
theorem d_Law_isPassed_37 : Dc b_Law_isPassed 37 (.iload 6) 2 39 := ⟨by decide +kernel, rfl⟩
theorem d_Law_isPassed_39 : Dc b_Law_isPassed 39 (.iconst 3) 1 40 := ⟨by decide +kernel, rfl⟩
theorem d_Law_isPassed_40 : Dc b_Law_isPassed 40 .idiv 1 41 := ⟨by decide +kernel, rfl⟩
theorem d_Law_isPassed_41 : Dc b_Law_isPassed 41 (.iload 6) 2 43 := ⟨by decide +kernel, rfl⟩
theorem d_Law_isPassed_43 : Dc b_Law_isPassed 43 (.iconst 3) 1 44 := ⟨by decide +kernel, rfl⟩
theorem d_Law_isPassed_44 : Dc b_Law_isPassed 44 .irem 1 45 := ⟨by decide +kernel, rfl⟩
theorem d_Law_isPassed_45 : Dc b_Law_isPassed 45 (.invokevirtual 102) 3 48 := ⟨by decide +kernel, rfl⟩
theorem d_Law_isPassed_48 : Dc b_Law_isPassed 48 .iastore 1 49 := ⟨by decide +kernel, rfl⟩
theorem d_Law_isPassed_49 : Dc b_Law_isPassed 49 (.iinc 6 1) 3 52 := ⟨by decide +kernel, rfl⟩
theorem d_Law_isPassed_52 : Dj b_Law_isPassed 52 .goto 24 55 := ⟨-28, by decide +kernel, by decide, rfl⟩
theorem d_Law_isPassed_55 : Dc b_Law_isPassed 55 (.aload_n 0) 1 56 := ⟨by decide +kernel, rfl⟩
theorem d_Law_isPassed_56 : Dc b_Law_isPassed 56 (.iload_n 2) 1 57 := ⟨by decide +kernel, rfl⟩
theorem d_Law_isPassed_57 : Dc b_Law_isPassed 57 (.invokevirtual 105) 3 60 := ⟨by decide +kernel, rfl⟩
theorem d_Law_isPassed_60 : Dc b_Law_isPassed 60 (.istore 6) 2 62 := ⟨by decide +kernel, rfl⟩
theorem d_Law_isPassed_62 : Dc b_Law_isPassed 62 (.aload_n 0) 1 63 := ⟨by decide +kernel, rfl⟩
theorem d_Law_isPassed_63 : Dc b_Law_isPassed 63 (.bipush 16) 2 65 := ⟨by decide +kernel, rfl⟩
theorem d_Law_isPassed_65 : Dc b_Law_isPassed 65 (.invokevirtual 57) 3 68 := ⟨by decide +kernel, rfl⟩
theorem d_Law_isPassed_68 : Dc b_Law_isPassed 68 (.iload 4) 2 70 := ⟨by decide +kernel, rfl⟩
theorem d_Law_isPassed_70 : Dc b_Law_isPassed 70 (.iload 6) 2 72 := ⟨by decide +kernel, rfl⟩
theorem d_Law_isPassed_72 : Dc b_Law_isPassed 72 .iadd 1 73 := ⟨by decide +kernel, rfl⟩
theorem d_Law_isPassed_73 : Dj b_Law_isPassed 73 (.if_icmp .ne) 86 76 := ⟨13, by decide +kernel, by decide, rfl⟩
theorem d_Law_isPassed_76 : Dc b_Law_isPassed 76 (.aload_n 0) 1 77 := ⟨by decide +kernel, rfl⟩
theorem d_Law_isPassed_77 : Dc b_Law_isPassed 77 (.bipush 17) 2 79 := ⟨by decide +kernel, rfl⟩
theorem d_Law_isPassed_79 : Dc b_Law_isPassed 79 (.invokevirtual 57) 3 82 := ⟨by decide +kernel, rfl⟩
theorem d_Law_isPassed_82 : Dc b_Law_isPassed 82 (.iload_n 3) 1 83 := ⟨by decide +kernel, rfl⟩
theorem d_Law_isPassed_83 : Dj b_Law_isPassed 83 (.if_icmp .eq) 88 86 := ⟨5, by decide +kernel, by decide, rfl⟩
theorem d_Law_isPassed_86 : Dc b_Law_isPassed 86 (.iconst 0) 1 87 := ⟨by decide +kernel, rfl⟩
theorem d_Law_isPassed_87 : Dc b_Law_isPassed 87 .ireturn 1 88 := ⟨by decide +kernel, rfl⟩
theorem d_Law_isPassed_88 : Dc b_Law_isPassed 88 (.iconst 0) 1 89 := ⟨by decide +kernel, rfl⟩
theorem d_Law_isPassed_89 : Dc b_Law_isPassed 89 (.istore 7) 2 91 := ⟨by decide +kernel, rfl⟩
theorem d_Law_isPassed_91 : Dc b_Law_isPassed 91 (.iload 7) 2 93 := ⟨by decide +kernel, rfl⟩
theorem d_Law_isPassed_93 : Dc b_Law_isPassed 93 (.aload 5) 2 95 := ⟨by decide +kernel, rfl⟩
theorem d_Law_isPassed_95 : Dc b_Law_isPassed 95 .arraylength 1 96 := ⟨by decide +kernel, rfl⟩
theorem d_Law_isPassed_96 : Dj b_Law_isPassed 96 (.if_icmp .ge) 150 99 := ⟨54, by decide +kernel, by decide, rfl⟩
theorem d_Law_isPassed_99 : Dc b_Law_isPassed 99 (.iload 6) 2 101 := ⟨by decide +kernel, rfl⟩
theorem d_Law_isPassed_101 : Dj b_Law_isPassed 101 (.ifCond .ne) 150 104 := ⟨49, by decide +kernel, by decide, rfl⟩
theorem d_Law_isPassed_104 : Dc b_Law_isPassed 104 (.aload_n 0) 1 105 := ⟨by decide +kernel, rfl⟩
theorem d_Law_isPassed_105 : Dc b_Law_isPassed 105 (.iload 7) 2 107 := ⟨by decide +kernel, rfl⟩
theorem d_Law_isPassed_107 : Dc b_Law_isPassed 107 (.iconst 3) 1 108 := ⟨by decide +kernel, rfl⟩
theorem d_Law_isPassed_108 : Dc b_Law_isPassed 108 .idiv 1 109 := ⟨by decide +kernel, rfl⟩
theorem d_Law_isPassed_109 : Dc b_Law_isPassed 109 (.iload 7) 2 111 := ⟨by decide +kernel, rfl⟩
theorem d_Law_isPassed_111 : Dc b_Law_isPassed 111 (.iconst 3) 1 112 := ⟨by decide +kernel, rfl⟩
theorem d_Law_isPassed_112 : Dc b_Law_isPassed 112 .irem 1 113 := ⟨by decide +kernel, rfl⟩
theorem d_Law_isPassed_113 : Dc b_Law_isPassed 113 (.invokevirtual 102) 3 116 := ⟨by decide +kernel, rfl⟩
theorem d_Law_isPassed_116 : Dc b_Law_isPassed 116 (.aload 5) 2 118 := ⟨by decide +kernel, rfl⟩
theorem d_Law_isPassed_118 : Dc b_Law_isPassed 118 (.iload 7) 2 120 := ⟨by decide +kernel, rfl⟩
theorem d_Law_isPassed_120 : Dc b_Law_isPassed 120 .iaload 1 121 := ⟨by decide +kernel, rfl⟩
theorem d_Law_isPassed_121 : Dj b_Law_isPassed 121 (.ifCond .ge) 128 124 := ⟨7, by decide +kernel, by decide, rfl⟩
theorem d_Law_isPassed_124 : Dc b_Law_isPassed 124 (.iconst (-1)) 1 125 := ⟨by decide +kernel, rfl⟩
theorem d_Law_isPassed_125 : Dj b_Law_isPassed 125 .goto 139 128 := ⟨14, by decide +kernel, by decide, rfl⟩
theorem d_Law_isPassed_128 : Dc b_Law_isPassed 128 (.iconst 0) 1 129 := ⟨by decide +kernel, rfl⟩
theorem d_Law_isPassed_129 : Dc b_Law_isPassed 129 (.aload 5) 2 131 := ⟨by decide +kernel, rfl⟩
theorem d_Law_isPassed_131 : Dc b_Law_isPassed 131 (.iload 7) 2 133 := ⟨by decide +kernel, rfl⟩
theorem d_Law_isPassed_133 : Dc b_Law_isPassed 133 .iaload 1 134 := ⟨by decide +kernel, rfl⟩
theorem d_Law_isPassed_134 : Dc b_Law_isPassed 134 (.iload_n 2) 1 135 := ⟨by decide +kernel, rfl⟩
theorem d_Law_isPassed_135 : Dc b_Law_isPassed 135 .isub 1 136 := ⟨by decide +kernel, rfl⟩
theorem d_Law_isPassed_136 : Dc b_Law_isPassed 136 (.invokestatic 108) 3 139 := ⟨by decide +kernel, rfl⟩
theorem d_Law_isPassed_139 : Dj b_Law_isPassed 139 (.if_icmp .eq) 144 142 := ⟨5, by decide +kernel, by decide, rfl⟩
theorem d_Law_isPassed_142 : Dc b_Law_isPassed 142 (.iconst 0) 1 143 := ⟨by decide +kernel, rfl⟩
theorem d_Law_isPassed_143 : Dc b_Law_isPassed 143 .ireturn 1 144 := ⟨by decide +kernel, rfl⟩
theorem d_Law_isPassed_144 : Dc b_Law_isPassed 144 (.iinc 7 1) 3 147 := ⟨by decide +kernel, rfl⟩
theorem d_Law_isPassed_147 : Dj b_Law_isPassed 147 .goto 91 150 := ⟨-56, by decide +kernel, by decide, rfl⟩
theorem d_Law_isPassed_150 : Dc b_Law_isPassed 150 (.iconst 1) 1 151 := ⟨by decide +kernel, rfl⟩
theorem d_Law_isPassed_151 : Dc b_Law_isPassed 151 .ireturn 1 152 := ⟨by decide +kernel, rfl⟩
abbrev b_Law_isSound : ByteArray := method_8_code
def y_Law_isSound : MethodName := ⟨"BinWardLaw", "isSound", "(LBinWard;IIII)Z"⟩
theorem d_Law_isSound_0 : Dc b_Law_isSound 0 (.iconst 0) 1 1 := ⟨by decide +kernel, rfl⟩
theorem d_Law_isSound_1 : Dc b_Law_isSound 1 (.istore 5) 2 3 := ⟨by decide +kernel, rfl⟩
theorem d_Law_isSound_3 : Dc b_Law_isSound 3 (.iconst 0) 1 4 := ⟨by decide +kernel, rfl⟩
theorem d_Law_isSound_4 : Dc b_Law_isSound 4 (.istore 6) 2 6 := ⟨by decide +kernel, rfl⟩
theorem d_Law_isSound_6 : Dc b_Law_isSound 6 (.iconst 0) 1 7 := ⟨by decide +kernel, rfl⟩
theorem d_Law_isSound_7 : Dc b_Law_isSound 7 (.istore 7) 2 9 := ⟨by decide +kernel, rfl⟩
theorem d_Law_isSound_9 : Dc b_Law_isSound 9 (.iload 7) 2 11 := ⟨by decide +kernel, rfl⟩
theorem d_Law_isSound_11 : Dc b_Law_isSound 11 (.iload_n 1) 1 12 := ⟨by decide +kernel, rfl⟩
theorem d_Law_isSound_12 : Dj b_Law_isSound 12 (.if_icmp .ge) 134 15 := ⟨122, by decide +kernel, by decide, rfl⟩
theorem d_Law_isSound_15 : Dc b_Law_isSound 15 (.iload 6) 2 17 := ⟨by decide +kernel, rfl⟩
theorem d_Law_isSound_17 : Dc b_Law_isSound 17 (.aload_n 0) 1 18 := ⟨by decide +kernel, rfl⟩
theorem d_Law_isSound_18 : Dc b_Law_isSound 18 (.iload 7) 2 20 := ⟨by decide +kernel, rfl⟩
theorem d_Law_isSound_20 : Dc b_Law_isSound 20 (.iconst 2) 1 21 := ⟨by decide +kernel, rfl⟩
theorem d_Law_isSound_21 : Dc b_Law_isSound 21 (.invokevirtual 51) 3 24 := ⟨by decide +kernel, rfl⟩
theorem d_Law_isSound_24 : Dc b_Law_isSound 24 .iadd 1 25 := ⟨by decide +kernel, rfl⟩
theorem d_Law_isSound_25 : Dc b_Law_isSound 25 (.istore 6) 2 27 := ⟨by decide +kernel, rfl⟩
theorem d_Law_isSound_27 : Dc b_Law_isSound 27 (.iconst 0) 1 28 := ⟨by decide +kernel, rfl⟩
theorem d_Law_isSound_28 : Dc b_Law_isSound 28 (.istore 8) 2 30 := ⟨by decide +kernel, rfl⟩
theorem d_Law_isSound_30 : Dc b_Law_isSound 30 (.iload 8) 2 32 := ⟨by decide +kernel, rfl⟩
theorem d_Law_isSound_32 : Dc b_Law_isSound 32 (.iconst 3) 1 33 := ⟨by decide +kernel, rfl⟩
theorem d_Law_isSound_33 : Dj b_Law_isSound 33 (.if_icmp .ge) 128 36 := ⟨95, by decide +kernel, by decide, rfl⟩
theorem d_Law_isSound_36 : Dc b_Law_isSound 36 (.aload_n 0) 1 37 := ⟨by decide +kernel, rfl⟩
theorem d_Law_isSound_37 : Dc b_Law_isSound 37 (.iload 7) 2 39 := ⟨by decide +kernel, rfl⟩
theorem d_Law_isSound_39 : Dc b_Law_isSound 39 (.bipush 6) 2 41 := ⟨by decide +kernel, rfl⟩
theorem d_Law_isSound_41 : Dc b_Law_isSound 41 (.iload 8) 2 43 := ⟨by decide +kernel, rfl⟩
theorem d_Law_isSound_43 : Dc b_Law_isSound 43 .iadd 1 44 := ⟨by decide +kernel, rfl⟩
theorem d_Law_isSound_44 : Dc b_Law_isSound 44 (.invokevirtual 51) 3 47 := ⟨by decide +kernel, rfl⟩
theorem d_Law_isSound_47 : Dc b_Law_isSound 47 (.iload 8) 2 49 := ⟨by decide +kernel, rfl⟩
theorem d_Law_isSound_49 : Dj b_Law_isSound 49 (.ifCond .le) 66 52 := ⟨17, by decide +kernel, by decide, rfl⟩
theorem d_Law_isSound_52 : Dc b_Law_isSound 52 (.aload_n 0) 1 53 := ⟨by decide +kernel, rfl⟩
theorem d_Law_isSound_53 : Dc b_Law_isSound 53 (.iload 7) 2 55 := ⟨by decide +kernel, rfl⟩
theorem d_Law_isSound_55 : Dc b_Law_isSound 55 (.bipush 8) 2 57 := ⟨by decide +kernel, rfl⟩
theorem d_Law_isSound_57 : Dc b_Law_isSound 57 (.iload 8) 2 59 := ⟨by decide +kernel, rfl⟩
theorem d_Law_isSound_59 : Dc b_Law_isSound 59 .iadd 1 60 := ⟨by decide +kernel, rfl⟩
theorem d_Law_isSound_60 : Dc b_Law_isSound 60 (.invokevirtual 51) 3 63 := ⟨by decide +kernel, rfl⟩
theorem d_Law_isSound_63 : Dj b_Law_isSound 63 .goto 67 66 := ⟨4, by decide +kernel, by decide, rfl⟩
theorem d_Law_isSound_66 : Dc b_Law_isSound 66 (.iconst 0) 1 67 := ⟨by decide +kernel, rfl⟩
theorem d_Law_isSound_67 : Dc b_Law_isSound 67 .iadd 1 68 := ⟨by decide +kernel, rfl⟩
theorem d_Law_isSound_68 : Dc b_Law_isSound 68 (.istore 9) 2 70 := ⟨by decide +kernel, rfl⟩
theorem d_Law_isSound_70 : Dc b_Law_isSound 70 (.iload 9) 2 72 := ⟨by decide +kernel, rfl⟩
theorem d_Law_isSound_72 : Dj b_Law_isSound 72 (.ifCond .lt) 113 75 := ⟨41, by decide +kernel, by decide, rfl⟩
theorem d_Law_isSound_75 : Dc b_Law_isSound 75 (.iload 9) 2 77 := ⟨by decide +kernel, rfl⟩
theorem d_Law_isSound_77 : Dc b_Law_isSound 77 (.bipush 60) 2 79 := ⟨by decide +kernel, rfl⟩
theorem d_Law_isSound_79 : Dj b_Law_isSound 79 (.if_icmp .gt) 113 82 := ⟨34, by decide +kernel, by decide, rfl⟩
theorem d_Law_isSound_82 : Dc b_Law_isSound 82 (.aload_n 0) 1 83 := ⟨by decide +kernel, rfl⟩
theorem d_Law_isSound_83 : Dc b_Law_isSound 83 (.iload 7) 2 85 := ⟨by decide +kernel, rfl⟩
theorem d_Law_isSound_85 : Dc b_Law_isSound 85 (.iload 8) 2 87 := ⟨by decide +kernel, rfl⟩
theorem d_Law_isSound_87 : Dc b_Law_isSound 87 (.invokevirtual 102) 3 90 := ⟨by decide +kernel, rfl⟩
theorem d_Law_isSound_90 : Dj b_Law_isSound 90 (.ifCond .ne) 97 93 := ⟨7, by decide +kernel, by decide, rfl⟩
theorem d_Law_isSound_93 : Dc b_Law_isSound 93 (.iconst 1) 1 94 := ⟨by decide +kernel, rfl⟩
theorem d_Law_isSound_94 : Dj b_Law_isSound 94 .goto 98 97 := ⟨4, by decide +kernel, by decide, rfl⟩
theorem d_Law_isSound_97 : Dc b_Law_isSound 97 (.iconst 0) 1 98 := ⟨by decide +kernel, rfl⟩
theorem d_Law_isSound_98 : Dc b_Law_isSound 98 (.iload 9) 2 100 := ⟨by decide +kernel, rfl⟩
theorem d_Law_isSound_100 : Dc b_Law_isSound 100 (.bipush 60) 2 102 := ⟨by decide +kernel, rfl⟩
theorem d_Law_isSound_102 : Dj b_Law_isSound 102 (.if_icmp .ne) 109 105 := ⟨7, by decide +kernel, by decide, rfl⟩
theorem d_Law_isSound_105 : Dc b_Law_isSound 105 (.iconst 1) 1 106 := ⟨by decide +kernel, rfl⟩
theorem d_Law_isSound_106 : Dj b_Law_isSound 106 .goto 110 109 := ⟨4, by decide +kernel, by decide, rfl⟩
theorem d_Law_isSound_109 : Dc b_Law_isSound 109 (.iconst 0) 1 110 := ⟨by decide +kernel, rfl⟩
theorem d_Law_isSound_110 : Dj b_Law_isSound 110 (.if_icmp .eq) 115 113 := ⟨5, by decide +kernel, by decide, rfl⟩
theorem d_Law_isSound_113 : Dc b_Law_isSound 113 (.iconst 0) 1 114 := ⟨by decide +kernel, rfl⟩
theorem d_Law_isSound_114 : Dc b_Law_isSound 114 .ireturn 1 115 := ⟨by decide +kernel, rfl⟩
theorem d_Law_isSound_115 : Dc b_Law_isSound 115 (.iload 5) 2 117 := ⟨by decide +kernel, rfl⟩
theorem d_Law_isSound_117 : Dc b_Law_isSound 117 (.iload 9) 2 119 := ⟨by decide +kernel, rfl⟩
theorem d_Law_isSound_119 : Dc b_Law_isSound 119 .iadd 1 120 := ⟨by decide +kernel, rfl⟩
theorem d_Law_isSound_120 : Dc b_Law_isSound 120 (.istore 5) 2 122 := ⟨by decide +kernel, rfl⟩
theorem d_Law_isSound_122 : Dc b_Law_isSound 122 (.iinc 8 1) 3 125 := ⟨by decide +kernel, rfl⟩
theorem d_Law_isSound_125 : Dj b_Law_isSound 125 .goto 30 128 := ⟨-95, by decide +kernel, by decide, rfl⟩
theorem d_Law_isSound_128 : Dc b_Law_isSound 128 (.iinc 7 1) 3 131 := ⟨by decide +kernel, rfl⟩
theorem d_Law_isSound_131 : Dj b_Law_isSound 131 .goto 9 134 := ⟨-122, by decide +kernel, by decide, rfl⟩
theorem d_Law_isSound_134 : Dc b_Law_isSound 134 (.iconst 0) 1 135 := ⟨by decide +kernel, rfl⟩
theorem d_Law_isSound_135 : Dc b_Law_isSound 135 (.istore 7) 2 137 := ⟨by decide +kernel, rfl⟩
theorem d_Law_isSound_137 : Dc b_Law_isSound 137 (.iconst 0) 1 138 := ⟨by decide +kernel, rfl⟩
theorem d_Law_isSound_138 : Dc b_Law_isSound 138 (.istore 8) 2 140 := ⟨by decide +kernel, rfl⟩
theorem d_Law_isSound_140 : Dc b_Law_isSound 140 (.iconst 0) 1 141 := ⟨by decide +kernel, rfl⟩
theorem d_Law_isSound_141 : Dc b_Law_isSound 141 (.istore 9) 2 143 := ⟨by decide +kernel, rfl⟩
theorem d_Law_isSound_143 : Dc b_Law_isSound 143 (.iload 9) 2 145 := ⟨by decide +kernel, rfl⟩
theorem d_Law_isSound_145 : Dc b_Law_isSound 145 (.aload_n 0) 1 146 := ⟨by decide +kernel, rfl⟩
theorem d_Law_isSound_146 : Dc b_Law_isSound 146 (.iconst 3) 1 147 := ⟨by decide +kernel, rfl⟩
theorem d_Law_isSound_147 : Dc b_Law_isSound 147 (.invokevirtual 57) 3 150 := ⟨by decide +kernel, rfl⟩
theorem d_Law_isSound_150 : Dj b_Law_isSound 150 (.if_icmp .ge) 252 153 := ⟨102, by decide +kernel, by decide, rfl⟩
theorem d_Law_isSound_153 : Dc b_Law_isSound 153 (.aload_n 0) 1 154 := ⟨by decide +kernel, rfl⟩
theorem d_Law_isSound_154 : Dc b_Law_isSound 154 (.iload 9) 2 156 := ⟨by decide +kernel, rfl⟩
theorem d_Law_isSound_156 : Dc b_Law_isSound 156 (.iconst 0) 1 157 := ⟨by decide +kernel, rfl⟩
theorem d_Law_isSound_157 : Dc b_Law_isSound 157 (.invokevirtual 60) 3 160 := ⟨by decide +kernel, rfl⟩
theorem d_Law_isSound_160 : Dc b_Law_isSound 160 (.aload_n 0) 1 161 := ⟨by decide +kernel, rfl⟩
theorem d_Law_isSound_161 : Dc b_Law_isSound 161 (.iload 9) 2 163 := ⟨by decide +kernel, rfl⟩
theorem d_Law_isSound_163 : Dc b_Law_isSound 163 (.iconst 1) 1 164 := ⟨by decide +kernel, rfl⟩
theorem d_Law_isSound_164 : Dc b_Law_isSound 164 (.invokevirtual 60) 3 167 := ⟨by decide +kernel, rfl⟩
theorem d_Law_isSound_167 : Dc b_Law_isSound 167 .iadd 1 168 := ⟨by decide +kernel, rfl⟩
theorem d_Law_isSound_168 : Dc b_Law_isSound 168 (.istore 10) 2 170 := ⟨by decide +kernel, rfl⟩
theorem d_Law_isSound_170 : Dc b_Law_isSound 170 (.aload_n 0) 1 171 := ⟨by decide +kernel, rfl⟩
theorem d_Law_isSound_171 : Dc b_Law_isSound 171 (.iload 9) 2 173 := ⟨by decide +kernel, rfl⟩
theorem d_Law_isSound_173 : Dc b_Law_isSound 173 (.iconst 2) 1 174 := ⟨by decide +kernel, rfl⟩
theorem d_Law_isSound_174 : Dc b_Law_isSound 174 (.invokevirtual 60) 3 177 := ⟨by decide +kernel, rfl⟩
theorem d_Law_isSound_177 : Dc b_Law_isSound 177 (.istore 11) 2 179 := ⟨by decide +kernel, rfl⟩
theorem d_Law_isSound_179 : Dc b_Law_isSound 179 (.iload 10) 2 181 := ⟨by decide +kernel, rfl⟩
theorem d_Law_isSound_181 : Dc b_Law_isSound 181 (.iload 11) 2 183 := ⟨by decide +kernel, rfl⟩
theorem d_Law_isSound_183 : Dc b_Law_isSound 183 (.iconst 3) 1 184 := ⟨by decide +kernel, rfl⟩
theorem d_Law_isSound_184 : Dj b_Law_isSound 184 (.if_icmp .ne) 191 187 := ⟨7, by decide +kernel, by decide, rfl⟩
theorem d_Law_isSound_187 : Dc b_Law_isSound 187 (.iconst 0) 1 188 := ⟨by decide +kernel, rfl⟩
theorem d_Law_isSound_188 : Dj b_Law_isSound 188 .goto 193 191 := ⟨5, by decide +kernel, by decide, rfl⟩
theorem d_Law_isSound_191 : Dc b_Law_isSound 191 (.bipush 40) 2 193 := ⟨by decide +kernel, rfl⟩
theorem d_Law_isSound_193 : Dj b_Law_isSound 193 (.if_icmp .ne) 222 196 := ⟨29, by decide +kernel, by decide, rfl⟩
theorem d_Law_isSound_196 : Dc b_Law_isSound 196 (.aload_n 0) 1 197 := ⟨by decide +kernel, rfl⟩
theorem d_Law_isSound_197 : Dc b_Law_isSound 197 (.iload 9) 2 199 := ⟨by decide +kernel, rfl⟩
theorem d_Law_isSound_199 : Dc b_Law_isSound 199 (.iconst 3) 1 200 := ⟨by decide +kernel, rfl⟩
theorem d_Law_isSound_200 : Dc b_Law_isSound 200 (.invokevirtual 60) 3 203 := ⟨by decide +kernel, rfl⟩
theorem d_Law_isSound_203 : Dc b_Law_isSound 203 (.aload_n 0) 1 204 := ⟨by decide +kernel, rfl⟩
theorem d_Law_isSound_204 : Dc b_Law_isSound 204 (.iconst 0) 1 205 := ⟨by decide +kernel, rfl⟩
theorem d_Law_isSound_205 : Dc b_Law_isSound 205 (.invokevirtual 57) 3 208 := ⟨by decide +kernel, rfl⟩
theorem d_Law_isSound_208 : Dj b_Law_isSound 208 (.if_icmp .gt) 222 211 := ⟨14, by decide +kernel, by decide, rfl⟩
theorem d_Law_isSound_211 : Dc b_Law_isSound 211 (.aload_n 0) 1 212 := ⟨by decide +kernel, rfl⟩
theorem d_Law_isSound_212 : Dc b_Law_isSound 212 (.iload 9) 2 214 := ⟨by decide +kernel, rfl⟩
theorem d_Law_isSound_214 : Dc b_Law_isSound 214 (.iconst 3) 1 215 := ⟨by decide +kernel, rfl⟩
theorem d_Law_isSound_215 : Dc b_Law_isSound 215 (.invokevirtual 60) 3 218 := ⟨by decide +kernel, rfl⟩
theorem d_Law_isSound_218 : Dc b_Law_isSound 218 (.iconst 1) 1 219 := ⟨by decide +kernel, rfl⟩
theorem d_Law_isSound_219 : Dj b_Law_isSound 219 (.if_icmp .ge) 224 222 := ⟨5, by decide +kernel, by decide, rfl⟩
theorem d_Law_isSound_222 : Dc b_Law_isSound 222 (.iconst 0) 1 223 := ⟨by decide +kernel, rfl⟩
theorem d_Law_isSound_223 : Dc b_Law_isSound 223 .ireturn 1 224 := ⟨by decide +kernel, rfl⟩
theorem d_Law_isSound_224 : Dc b_Law_isSound 224 (.iload 7) 2 226 := ⟨by decide +kernel, rfl⟩
theorem d_Law_isSound_226 : Dc b_Law_isSound 226 (.iload 10) 2 228 := ⟨by decide +kernel, rfl⟩
theorem d_Law_isSound_228 : Dc b_Law_isSound 228 .iadd 1 229 := ⟨by decide +kernel, rfl⟩
theorem d_Law_isSound_229 : Dc b_Law_isSound 229 (.istore 7) 2 231 := ⟨by decide +kernel, rfl⟩
theorem d_Law_isSound_231 : Dc b_Law_isSound 231 (.iload 8) 2 233 := ⟨by decide +kernel, rfl⟩
theorem d_Law_isSound_233 : Dc b_Law_isSound 233 (.iload 11) 2 235 := ⟨by decide +kernel, rfl⟩
theorem d_Law_isSound_235 : Dj b_Law_isSound 235 (.ifCond .ne) 242 238 := ⟨7, by decide +kernel, by decide, rfl⟩
theorem d_Law_isSound_238 : Dc b_Law_isSound 238 (.iconst 1) 1 239 := ⟨by decide +kernel, rfl⟩
theorem d_Law_isSound_239 : Dj b_Law_isSound 239 .goto 243 242 := ⟨4, by decide +kernel, by decide, rfl⟩
theorem d_Law_isSound_242 : Dc b_Law_isSound 242 (.iconst 0) 1 243 := ⟨by decide +kernel, rfl⟩
theorem d_Law_isSound_243 : Dc b_Law_isSound 243 .iadd 1 244 := ⟨by decide +kernel, rfl⟩
theorem d_Law_isSound_244 : Dc b_Law_isSound 244 (.istore 8) 2 246 := ⟨by decide +kernel, rfl⟩
theorem d_Law_isSound_246 : Dc b_Law_isSound 246 (.iinc 9 1) 3 249 := ⟨by decide +kernel, rfl⟩
theorem d_Law_isSound_249 : Dj b_Law_isSound 249 .goto 143 252 := ⟨-106, by decide +kernel, by decide, rfl⟩
theorem d_Law_isSound_252 : Dc b_Law_isSound 252 (.iload 6) 2 254 := ⟨by decide +kernel, rfl⟩
theorem d_Law_isSound_254 : Dc b_Law_isSound 254 (.aload_n 0) 1 255 := ⟨by decide +kernel, rfl⟩
theorem d_Law_isSound_255 : Dc b_Law_isSound 255 (.bipush 17) 2 257 := ⟨by decide +kernel, rfl⟩
theorem d_Law_isSound_257 : Dc b_Law_isSound 257 (.invokevirtual 57) 3 260 := ⟨by decide +kernel, rfl⟩
theorem d_Law_isSound_260 : Dj b_Law_isSound 260 (.if_icmp .ne) 315 263 := ⟨55, by decide +kernel, by decide, rfl⟩
theorem d_Law_isSound_263 : Dc b_Law_isSound 263 (.iload 8) 2 265 := ⟨by decide +kernel, rfl⟩
theorem d_Law_isSound_265 : Dc b_Law_isSound 265 (.aload_n 0) 1 266 := ⟨by decide +kernel, rfl⟩
theorem d_Law_isSound_266 : Dc b_Law_isSound 266 (.iconst 4) 1 267 := ⟨by decide +kernel, rfl⟩
theorem d_Law_isSound_267 : Dc b_Law_isSound 267 (.invokevirtual 57) 3 270 := ⟨by decide +kernel, rfl⟩
theorem d_Law_isSound_270 : Dj b_Law_isSound 270 (.if_icmp .ne) 315 273 := ⟨45, by decide +kernel, by decide, rfl⟩
theorem d_Law_isSound_273 : Dc b_Law_isSound 273 (.iload_n 2) 1 274 := ⟨by decide +kernel, rfl⟩
theorem d_Law_isSound_274 : Dc b_Law_isSound 274 (.iload 5) 2 276 := ⟨by decide +kernel, rfl⟩
theorem d_Law_isSound_276 : Dc b_Law_isSound 276 (.iload 6) 2 278 := ⟨by decide +kernel, rfl⟩
theorem d_Law_isSound_278 : Dc b_Law_isSound 278 .iadd 1 279 := ⟨by decide +kernel, rfl⟩
theorem d_Law_isSound_279 : Dc b_Law_isSound 279 (.iload_n 3) 1 280 := ⟨by decide +kernel, rfl⟩
theorem d_Law_isSound_280 : Dc b_Law_isSound 280 .iadd 1 281 := ⟨by decide +kernel, rfl⟩
theorem d_Law_isSound_281 : Dc b_Law_isSound 281 (.aload_n 0) 1 282 := ⟨by decide +kernel, rfl⟩
theorem d_Law_isSound_282 : Dc b_Law_isSound 282 (.bipush 16) 2 284 := ⟨by decide +kernel, rfl⟩
theorem d_Law_isSound_284 : Dc b_Law_isSound 284 (.invokevirtual 57) 3 287 := ⟨by decide +kernel, rfl⟩
theorem d_Law_isSound_287 : Dc b_Law_isSound 287 .iadd 1 288 := ⟨by decide +kernel, rfl⟩
theorem d_Law_isSound_288 : Dj b_Law_isSound 288 (.if_icmp .ne) 315 291 := ⟨27, by decide +kernel, by decide, rfl⟩
theorem d_Law_isSound_291 : Dc b_Law_isSound 291 (.aload_n 0) 1 292 := ⟨by decide +kernel, rfl⟩
theorem d_Law_isSound_292 : Dc b_Law_isSound 292 (.bipush 16) 2 294 := ⟨by decide +kernel, rfl⟩
theorem d_Law_isSound_294 : Dc b_Law_isSound 294 (.invokevirtual 57) 3 297 := ⟨by decide +kernel, rfl⟩
theorem d_Law_isSound_297 : Dc b_Law_isSound 297 (.aload_n 0) 1 298 := ⟨by decide +kernel, rfl⟩
theorem d_Law_isSound_298 : Dc b_Law_isSound 298 (.iconst 0) 1 299 := ⟨by decide +kernel, rfl⟩
theorem d_Law_isSound_299 : Dc b_Law_isSound 299 (.bipush 6) 2 301 := ⟨by decide +kernel, rfl⟩
theorem d_Law_isSound_301 : Dc b_Law_isSound 301 (.invokevirtual 116) 3 304 := ⟨by decide +kernel, rfl⟩
theorem d_Law_isSound_304 : Dc b_Law_isSound 304 (.aload_n 0) 1 305 := ⟨by decide +kernel, rfl⟩
theorem d_Law_isSound_305 : Dc b_Law_isSound 305 (.iconst 1) 1 306 := ⟨by decide +kernel, rfl⟩
theorem d_Law_isSound_306 : Dc b_Law_isSound 306 (.bipush 6) 2 308 := ⟨by decide +kernel, rfl⟩
theorem d_Law_isSound_308 : Dc b_Law_isSound 308 (.invokevirtual 116) 3 311 := ⟨by decide +kernel, rfl⟩
theorem d_Law_isSound_311 : Dc b_Law_isSound 311 .iadd 1 312 := ⟨by decide +kernel, rfl⟩
theorem d_Law_isSound_312 : Dj b_Law_isSound 312 (.if_icmp .eq) 317 315 := ⟨5, by decide +kernel, by decide, rfl⟩
theorem d_Law_isSound_315 : Dc b_Law_isSound 315 (.iconst 0) 1 316 := ⟨by decide +kernel, rfl⟩
theorem d_Law_isSound_316 : Dc b_Law_isSound 316 .ireturn 1 317 := ⟨by decide +kernel, rfl⟩
theorem d_Law_isSound_317 : Dc b_Law_isSound 317 (.iload 7) 2 319 := ⟨by decide +kernel, rfl⟩
theorem d_Law_isSound_319 : Dc b_Law_isSound 319 (.aload_n 0) 1 320 := ⟨by decide +kernel, rfl⟩
theorem d_Law_isSound_320 : Dc b_Law_isSound 320 (.iconst 1) 1 321 := ⟨by decide +kernel, rfl⟩
theorem d_Law_isSound_321 : Dc b_Law_isSound 321 (.invokevirtual 57) 3 324 := ⟨by decide +kernel, rfl⟩
theorem d_Law_isSound_324 : Dc b_Law_isSound 324 .iadd 1 325 := ⟨by decide +kernel, rfl⟩
theorem d_Law_isSound_325 : Dc b_Law_isSound 325 (.aload_n 0) 1 326 := ⟨by decide +kernel, rfl⟩
theorem d_Law_isSound_326 : Dc b_Law_isSound 326 (.iconst 2) 1 327 := ⟨by decide +kernel, rfl⟩
theorem d_Law_isSound_327 : Dc b_Law_isSound 327 (.invokevirtual 57) 3 330 := ⟨by decide +kernel, rfl⟩
theorem d_Law_isSound_330 : Dc b_Law_isSound 330 .iadd 1 331 := ⟨by decide +kernel, rfl⟩
theorem d_Law_isSound_331 : Dc b_Law_isSound 331 (.aload_n 0) 1 332 := ⟨by decide +kernel, rfl⟩
theorem d_Law_isSound_332 : Dc b_Law_isSound 332 (.iconst 5) 1 333 := ⟨by decide +kernel, rfl⟩
theorem d_Law_isSound_333 : Dc b_Law_isSound 333 (.invokevirtual 57) 3 336 := ⟨by decide +kernel, rfl⟩
theorem d_Law_isSound_336 : Dc b_Law_isSound 336 .iadd 1 337 := ⟨by decide +kernel, rfl⟩
theorem d_Law_isSound_337 : Dc b_Law_isSound 337 (.aload_n 0) 1 338 := ⟨by decide +kernel, rfl⟩
theorem d_Law_isSound_338 : Dc b_Law_isSound 338 (.bipush 6) 2 340 := ⟨by decide +kernel, rfl⟩
theorem d_Law_isSound_340 : Dc b_Law_isSound 340 (.invokevirtual 57) 3 343 := ⟨by decide +kernel, rfl⟩
theorem d_Law_isSound_343 : Dc b_Law_isSound 343 .iadd 1 344 := ⟨by decide +kernel, rfl⟩
theorem d_Law_isSound_344 : Dc b_Law_isSound 344 (.aload_n 0) 1 345 := ⟨by decide +kernel, rfl⟩
theorem d_Law_isSound_345 : Dc b_Law_isSound 345 (.bipush 7) 2 347 := ⟨by decide +kernel, rfl⟩
theorem d_Law_isSound_347 : Dc b_Law_isSound 347 (.invokevirtual 57) 3 350 := ⟨by decide +kernel, rfl⟩
theorem d_Law_isSound_350 : Dc b_Law_isSound 350 .iadd 1 351 := ⟨by decide +kernel, rfl⟩
theorem d_Law_isSound_351 : Dc b_Law_isSound 351 (.aload_n 0) 1 352 := ⟨by decide +kernel, rfl⟩
theorem d_Law_isSound_352 : Dc b_Law_isSound 352 (.bipush 8) 2 354 := ⟨by decide +kernel, rfl⟩
theorem d_Law_isSound_354 : Dc b_Law_isSound 354 (.invokevirtual 57) 3 357 := ⟨by decide +kernel, rfl⟩
theorem d_Law_isSound_357 : Dc b_Law_isSound 357 .iadd 1 358 := ⟨by decide +kernel, rfl⟩
theorem d_Law_isSound_358 : Dc b_Law_isSound 358 (.aload_n 0) 1 359 := ⟨by decide +kernel, rfl⟩
theorem d_Law_isSound_359 : Dc b_Law_isSound 359 (.bipush 9) 2 361 := ⟨by decide +kernel, rfl⟩
theorem d_Law_isSound_361 : Dc b_Law_isSound 361 (.invokevirtual 57) 3 364 := ⟨by decide +kernel, rfl⟩
theorem d_Law_isSound_364 : Dc b_Law_isSound 364 .iadd 1 365 := ⟨by decide +kernel, rfl⟩
theorem d_Law_isSound_365 : Dc b_Law_isSound 365 (.aload_n 0) 1 366 := ⟨by decide +kernel, rfl⟩
theorem d_Law_isSound_366 : Dc b_Law_isSound 366 (.bipush 11) 2 368 := ⟨by decide +kernel, rfl⟩
theorem d_Law_isSound_368 : Dc b_Law_isSound 368 (.invokevirtual 57) 3 371 := ⟨by decide +kernel, rfl⟩
theorem d_Law_isSound_371 : Dc b_Law_isSound 371 .iadd 1 372 := ⟨by decide +kernel, rfl⟩
theorem d_Law_isSound_372 : Dc b_Law_isSound 372 (.aload_n 0) 1 373 := ⟨by decide +kernel, rfl⟩
theorem d_Law_isSound_373 : Dc b_Law_isSound 373 (.bipush 12) 2 375 := ⟨by decide +kernel, rfl⟩
theorem d_Law_isSound_375 : Dc b_Law_isSound 375 (.invokevirtual 57) 3 378 := ⟨by decide +kernel, rfl⟩
theorem d_Law_isSound_378 : Dc b_Law_isSound 378 .iadd 1 379 := ⟨by decide +kernel, rfl⟩
theorem d_Law_isSound_379 : Dc b_Law_isSound 379 (.aload_n 0) 1 380 := ⟨by decide +kernel, rfl⟩
theorem d_Law_isSound_380 : Dc b_Law_isSound 380 (.bipush 13) 2 382 := ⟨by decide +kernel, rfl⟩
theorem d_Law_isSound_382 : Dc b_Law_isSound 382 (.invokevirtual 57) 3 385 := ⟨by decide +kernel, rfl⟩
theorem d_Law_isSound_385 : Dc b_Law_isSound 385 .isub 1 386 := ⟨by decide +kernel, rfl⟩
theorem d_Law_isSound_386 : Dc b_Law_isSound 386 (.istore 9) 2 388 := ⟨by decide +kernel, rfl⟩
theorem d_Law_isSound_388 : Dc b_Law_isSound 388 (.iload 9) 2 390 := ⟨by decide +kernel, rfl⟩
theorem d_Law_isSound_390 : Dc b_Law_isSound 390 (.aload_n 0) 1 391 := ⟨by decide +kernel, rfl⟩
theorem d_Law_isSound_391 : Dc b_Law_isSound 391 (.bipush 16) 2 393 := ⟨by decide +kernel, rfl⟩
theorem d_Law_isSound_393 : Dc b_Law_isSound 393 (.invokevirtual 57) 3 396 := ⟨by decide +kernel, rfl⟩
theorem d_Law_isSound_396 : Dc b_Law_isSound 396 (.iload_n 3) 1 397 := ⟨by decide +kernel, rfl⟩
theorem d_Law_isSound_397 : Dc b_Law_isSound 397 .iadd 1 398 := ⟨by decide +kernel, rfl⟩
theorem d_Law_isSound_398 : Dj b_Law_isSound 398 (.if_icmp .ne) 467 401 := ⟨69, by decide +kernel, by decide, rfl⟩
theorem d_Law_isSound_401 : Dc b_Law_isSound 401 (.aload_n 0) 1 402 := ⟨by decide +kernel, rfl⟩
theorem d_Law_isSound_402 : Dc b_Law_isSound 402 (.bipush 10) 2 404 := ⟨by decide +kernel, rfl⟩
theorem d_Law_isSound_404 : Dc b_Law_isSound 404 (.invokevirtual 57) 3 407 := ⟨by decide +kernel, rfl⟩
theorem d_Law_isSound_407 : Dc b_Law_isSound 407 (.aload_n 0) 1 408 := ⟨by decide +kernel, rfl⟩
theorem d_Law_isSound_408 : Dc b_Law_isSound 408 (.bipush 9) 2 410 := ⟨by decide +kernel, rfl⟩
theorem d_Law_isSound_410 : Dc b_Law_isSound 410 (.invokevirtual 57) 3 413 := ⟨by decide +kernel, rfl⟩
theorem d_Law_isSound_413 : Dj b_Law_isSound 413 (.if_icmp .gt) 467 416 := ⟨54, by decide +kernel, by decide, rfl⟩
theorem d_Law_isSound_416 : Dc b_Law_isSound 416 (.iload 4) 2 418 := ⟨by decide +kernel, rfl⟩
theorem d_Law_isSound_418 : Dc b_Law_isSound 418 (.iload 7) 2 420 := ⟨by decide +kernel, rfl⟩
theorem d_Law_isSound_420 : Dj b_Law_isSound 420 (.if_icmp .gt) 467 423 := ⟨47, by decide +kernel, by decide, rfl⟩
theorem d_Law_isSound_423 : Dc b_Law_isSound 423 (.aload_n 0) 1 424 := ⟨by decide +kernel, rfl⟩
theorem d_Law_isSound_424 : Dc b_Law_isSound 424 (.bipush 14) 2 426 := ⟨by decide +kernel, rfl⟩
theorem d_Law_isSound_426 : Dc b_Law_isSound 426 (.invokevirtual 57) 3 429 := ⟨by decide +kernel, rfl⟩
theorem d_Law_isSound_429 : Dc b_Law_isSound 429 (.iconst 3) 1 430 := ⟨by decide +kernel, rfl⟩
theorem d_Law_isSound_430 : Dc b_Law_isSound 430 (.aload_n 0) 1 431 := ⟨by decide +kernel, rfl⟩
theorem d_Law_isSound_431 : Dc b_Law_isSound 431 (.bipush 12) 2 433 := ⟨by decide +kernel, rfl⟩
theorem d_Law_isSound_433 : Dc b_Law_isSound 433 (.invokevirtual 57) 3 436 := ⟨by decide +kernel, rfl⟩
theorem d_Law_isSound_436 : Dc b_Law_isSound 436 .imul 1 437 := ⟨by decide +kernel, rfl⟩
theorem d_Law_isSound_437 : Dj b_Law_isSound 437 (.if_icmp .ne) 467 440 := ⟨30, by decide +kernel, by decide, rfl⟩
theorem d_Law_isSound_440 : Dc b_Law_isSound 440 (.aload_n 0) 1 441 := ⟨by decide +kernel, rfl⟩
theorem d_Law_isSound_441 : Dc b_Law_isSound 441 (.iconst 2) 1 442 := ⟨by decide +kernel, rfl⟩
theorem d_Law_isSound_442 : Dc b_Law_isSound 442 (.invokevirtual 120) 3 445 := ⟨by decide +kernel, rfl⟩
theorem d_Law_isSound_445 : Dc b_Law_isSound 445 (.aload_n 0) 1 446 := ⟨by decide +kernel, rfl⟩
theorem d_Law_isSound_446 : Dc b_Law_isSound 446 (.iconst 1) 1 447 := ⟨by decide +kernel, rfl⟩
theorem d_Law_isSound_447 : Dc b_Law_isSound 447 (.invokevirtual 120) 3 450 := ⟨by decide +kernel, rfl⟩
theorem d_Law_isSound_450 : Dj b_Law_isSound 450 (.if_icmp .lt) 467 453 := ⟨17, by decide +kernel, by decide, rfl⟩
theorem d_Law_isSound_453 : Dc b_Law_isSound 453 (.aload_n 0) 1 454 := ⟨by decide +kernel, rfl⟩
theorem d_Law_isSound_454 : Dc b_Law_isSound 454 (.iconst 3) 1 455 := ⟨by decide +kernel, rfl⟩
theorem d_Law_isSound_455 : Dc b_Law_isSound 455 (.invokevirtual 57) 3 458 := ⟨by decide +kernel, rfl⟩
theorem d_Law_isSound_458 : Dc b_Law_isSound 458 (.bipush 20) 2 460 := ⟨by decide +kernel, rfl⟩
theorem d_Law_isSound_460 : Dj b_Law_isSound 460 (.if_icmp .gt) 467 463 := ⟨7, by decide +kernel, by decide, rfl⟩
theorem d_Law_isSound_463 : Dc b_Law_isSound 463 (.iconst 1) 1 464 := ⟨by decide +kernel, rfl⟩
theorem d_Law_isSound_464 : Dj b_Law_isSound 464 .goto 468 467 := ⟨4, by decide +kernel, by decide, rfl⟩
theorem d_Law_isSound_467 : Dc b_Law_isSound 467 (.iconst 0) 1 468 := ⟨by decide +kernel, rfl⟩
theorem d_Law_isSound_468 : Dc b_Law_isSound 468 .ireturn 1 469 := ⟨by decide +kernel, rfl⟩
abbrev b_Law_law : ByteArray := code
def y_Law_law : MethodName := ⟨"BinWardLaw", "law", "([I)Z"⟩
theorem d_Law_law_0 : Dc b_Law_law 0 (.new 9) 3 3 := ⟨by decide +kernel, rfl⟩
theorem d_Law_law_3 : Dc b_Law_law 3 .dup 1 4 := ⟨by decide +kernel, rfl⟩
theorem d_Law_law_4 : Dc b_Law_law 4 (.invokespecial 11) 3 7 := ⟨by decide +kernel, rfl⟩
theorem d_Law_law_7 : Dc b_Law_law 7 (.astore_n 1) 1 8 := ⟨by decide +kernel, rfl⟩
theorem d_Law_law_8 : Dc b_Law_law 8 (.iconst 2) 1 9 := ⟨by decide +kernel, rfl⟩
theorem d_Law_law_9 : Dc b_Law_law 9 (.aload_n 0) 1 10 := ⟨by decide +kernel, rfl⟩
theorem d_Law_law_10 : Dc b_Law_law 10 (.iconst 0) 1 11 := ⟨by decide +kernel, rfl⟩
theorem d_Law_law_11 : Dc b_Law_law 11 (.invokestatic 12) 3 14 := ⟨by decide +kernel, rfl⟩
theorem d_Law_law_14 : Dc b_Law_law 14 (.iconst 4) 1 15 := ⟨by decide +kernel, rfl⟩
theorem d_Law_law_15 : Dc b_Law_law 15 (.invokestatic 18) 3 18 := ⟨by decide +kernel, rfl⟩
theorem d_Law_law_18 : Dc b_Law_law 18 .iadd 1 19 := ⟨by decide +kernel, rfl⟩
theorem d_Law_law_19 : Dc b_Law_law 19 (.istore_n 2) 1 20 := ⟨by decide +kernel, rfl⟩
theorem d_Law_law_20 : Dc b_Law_law 20 (.iconst 0) 1 21 := ⟨by decide +kernel, rfl⟩
theorem d_Law_law_21 : Dc b_Law_law 21 (.istore_n 3) 1 22 := ⟨by decide +kernel, rfl⟩
theorem d_Law_law_22 : Dc b_Law_law 22 (.iload_n 3) 1 23 := ⟨by decide +kernel, rfl⟩
theorem d_Law_law_23 : Dc b_Law_law 23 (.iload_n 2) 1 24 := ⟨by decide +kernel, rfl⟩
theorem d_Law_law_24 : Dj b_Law_law 24 (.if_icmp .ge) 112 27 := ⟨88, by decide +kernel, by decide, rfl⟩
theorem d_Law_law_27 : Dc b_Law_law 27 (.aload_n 1) 1 28 := ⟨by decide +kernel, rfl⟩
theorem d_Law_law_28 : Dc b_Law_law 28 (.iconst 1) 1 29 := ⟨by decide +kernel, rfl⟩
theorem d_Law_law_29 : Dc b_Law_law 29 (.aload_n 0) 1 30 := ⟨by decide +kernel, rfl⟩
theorem d_Law_law_30 : Dc b_Law_law 30 (.iload_n 3) 1 31 := ⟨by decide +kernel, rfl⟩
theorem d_Law_law_31 : Dc b_Law_law 31 (.iconst 1) 1 32 := ⟨by decide +kernel, rfl⟩
theorem d_Law_law_32 : Dc b_Law_law 32 .iadd 1 33 := ⟨by decide +kernel, rfl⟩
theorem d_Law_law_33 : Dc b_Law_law 33 (.invokestatic 12) 3 36 := ⟨by decide +kernel, rfl⟩
theorem d_Law_law_36 : Dc b_Law_law 36 (.bipush 30) 2 38 := ⟨by decide +kernel, rfl⟩
theorem d_Law_law_38 : Dc b_Law_law 38 (.invokestatic 18) 3 41 := ⟨by decide +kernel, rfl⟩
theorem d_Law_law_41 : Dc b_Law_law 41 .iadd 1 42 := ⟨by decide +kernel, rfl⟩
theorem d_Law_law_42 : Dc b_Law_law 42 (.aload_n 0) 1 43 := ⟨by decide +kernel, rfl⟩
theorem d_Law_law_43 : Dc b_Law_law 43 (.iload_n 3) 1 44 := ⟨by decide +kernel, rfl⟩
theorem d_Law_law_44 : Dc b_Law_law 44 (.iconst 2) 1 45 := ⟨by decide +kernel, rfl⟩
theorem d_Law_law_45 : Dc b_Law_law 45 .iadd 1 46 := ⟨by decide +kernel, rfl⟩
theorem d_Law_law_46 : Dc b_Law_law 46 (.invokestatic 12) 3 49 := ⟨by decide +kernel, rfl⟩
theorem d_Law_law_49 : Dc b_Law_law 49 (.iconst 5) 1 50 := ⟨by decide +kernel, rfl⟩
theorem d_Law_law_50 : Dc b_Law_law 50 (.invokestatic 18) 3 53 := ⟨by decide +kernel, rfl⟩
theorem d_Law_law_53 : Dc b_Law_law 53 (.invokevirtual 22) 3 56 := ⟨by decide +kernel, rfl⟩
theorem d_Law_law_56 : Dc b_Law_law 56 (.iload_n 3) 1 57 := ⟨by decide +kernel, rfl⟩
theorem d_Law_law_57 : Dj b_Law_law 57 (.if_icmp .eq) 62 60 := ⟨5, by decide +kernel, by decide, rfl⟩
theorem d_Law_law_60 : Dc b_Law_law 60 (.iconst 0) 1 61 := ⟨by decide +kernel, rfl⟩
theorem d_Law_law_61 : Dc b_Law_law 61 .ireturn 1 62 := ⟨by decide +kernel, rfl⟩
theorem d_Law_law_62 : Dc b_Law_law 62 (.iconst 0) 1 63 := ⟨by decide +kernel, rfl⟩
theorem d_Law_law_63 : Dc b_Law_law 63 (.istore 4) 2 65 := ⟨by decide +kernel, rfl⟩
theorem d_Law_law_65 : Dc b_Law_law 65 (.iload 4) 2 67 := ⟨by decide +kernel, rfl⟩
theorem d_Law_law_67 : Dc b_Law_law 67 (.iconst 3) 1 68 := ⟨by decide +kernel, rfl⟩
theorem d_Law_law_68 : Dj b_Law_law 68 (.if_icmp .ge) 106 71 := ⟨38, by decide +kernel, by decide, rfl⟩
theorem d_Law_law_71 : Dc b_Law_law 71 (.aload_n 1) 1 72 := ⟨by decide +kernel, rfl⟩
theorem d_Law_law_72 : Dc b_Law_law 72 (.iload_n 3) 1 73 := ⟨by decide +kernel, rfl⟩
theorem d_Law_law_73 : Dc b_Law_law 73 (.iload 4) 2 75 := ⟨by decide +kernel, rfl⟩
theorem d_Law_law_75 : Dc b_Law_law 75 (.aload_n 0) 1 76 := ⟨by decide +kernel, rfl⟩
theorem d_Law_law_76 : Dc b_Law_law 76 (.iload_n 3) 1 77 := ⟨by decide +kernel, rfl⟩
theorem d_Law_law_77 : Dc b_Law_law 77 (.iconst 3) 1 78 := ⟨by decide +kernel, rfl⟩
theorem d_Law_law_78 : Dc b_Law_law 78 .iadd 1 79 := ⟨by decide +kernel, rfl⟩
theorem d_Law_law_79 : Dc b_Law_law 79 (.invokestatic 12) 3 82 := ⟨by decide +kernel, rfl⟩
theorem d_Law_law_82 : Dc b_Law_law 82 (.iconst 3) 1 83 := ⟨by decide +kernel, rfl⟩
theorem d_Law_law_83 : Dc b_Law_law 83 (.iload 4) 2 85 := ⟨by decide +kernel, rfl⟩
theorem d_Law_law_85 : Dc b_Law_law 85 .imul 1 86 := ⟨by decide +kernel, rfl⟩
theorem d_Law_law_86 : Dc b_Law_law 86 .ishr 1 87 := ⟨by decide +kernel, rfl⟩
theorem d_Law_law_87 : Dc b_Law_law 87 (.bipush 10) 2 89 := ⟨by decide +kernel, rfl⟩
theorem d_Law_law_89 : Dc b_Law_law 89 (.invokestatic 18) 3 92 := ⟨by decide +kernel, rfl⟩
theorem d_Law_law_92 : Dc b_Law_law 92 (.invokevirtual 25) 3 95 := ⟨by decide +kernel, rfl⟩
theorem d_Law_law_95 : Dj b_Law_law 95 (.ifCond .eq) 100 98 := ⟨5, by decide +kernel, by decide, rfl⟩
theorem d_Law_law_98 : Dc b_Law_law 98 (.iconst 0) 1 99 := ⟨by decide +kernel, rfl⟩
theorem d_Law_law_99 : Dc b_Law_law 99 .ireturn 1 100 := ⟨by decide +kernel, rfl⟩
theorem d_Law_law_100 : Dc b_Law_law 100 (.iinc 4 1) 3 103 := ⟨by decide +kernel, rfl⟩
theorem d_Law_law_103 : Dj b_Law_law 103 .goto 65 106 := ⟨-38, by decide +kernel, by decide, rfl⟩
theorem d_Law_law_106 : Dc b_Law_law 106 (.iinc 3 1) 3 109 := ⟨by decide +kernel, rfl⟩
theorem d_Law_law_109 : Dj b_Law_law 109 .goto 22 112 := ⟨-87, by decide +kernel, by decide, rfl⟩
theorem d_Law_law_112 : Dc b_Law_law 112 (.iconst 0) 1 113 := ⟨by decide +kernel, rfl⟩
theorem d_Law_law_113 : Dc b_Law_law 113 (.istore_n 3) 1 114 := ⟨by decide +kernel, rfl⟩
theorem d_Law_law_114 : Dc b_Law_law 114 (.iload_n 3) 1 115 := ⟨by decide +kernel, rfl⟩
theorem d_Law_law_115 : Dc b_Law_law 115 (.iconst 2) 1 116 := ⟨by decide +kernel, rfl⟩
theorem d_Law_law_116 : Dj b_Law_law 116 (.if_icmp .ge) 178 119 := ⟨62, by decide +kernel, by decide, rfl⟩
theorem d_Law_law_119 : Dc b_Law_law 119 (.aload_n 1) 1 120 := ⟨by decide +kernel, rfl⟩
theorem d_Law_law_120 : Dc b_Law_law 120 (.bipush 30) 2 122 := ⟨by decide +kernel, rfl⟩
theorem d_Law_law_122 : Dc b_Law_law 122 (.aload_n 0) 1 123 := ⟨by decide +kernel, rfl⟩
theorem d_Law_law_123 : Dc b_Law_law 123 (.iload_n 3) 1 124 := ⟨by decide +kernel, rfl⟩
theorem d_Law_law_124 : Dc b_Law_law 124 (.bipush 9) 2 126 := ⟨by decide +kernel, rfl⟩
theorem d_Law_law_126 : Dc b_Law_law 126 .iadd 1 127 := ⟨by decide +kernel, rfl⟩
theorem d_Law_law_127 : Dc b_Law_law 127 (.invokestatic 12) 3 130 := ⟨by decide +kernel, rfl⟩
theorem d_Law_law_130 : Dc b_Law_law 130 (.bipush 91) 2 132 := ⟨by decide +kernel, rfl⟩
theorem d_Law_law_132 : Dc b_Law_law 132 (.invokestatic 18) 3 135 := ⟨by decide +kernel, rfl⟩
theorem d_Law_law_135 : Dc b_Law_law 135 .iadd 1 136 := ⟨by decide +kernel, rfl⟩
theorem d_Law_law_136 : Dc b_Law_law 136 (.aload_n 0) 1 137 := ⟨by decide +kernel, rfl⟩
theorem d_Law_law_137 : Dc b_Law_law 137 (.iload_n 3) 1 138 := ⟨by decide +kernel, rfl⟩
theorem d_Law_law_138 : Dc b_Law_law 138 (.bipush 9) 2 140 := ⟨by decide +kernel, rfl⟩
theorem d_Law_law_140 : Dc b_Law_law 140 .iadd 1 141 := ⟨by decide +kernel, rfl⟩
theorem d_Law_law_141 : Dc b_Law_law 141 (.invokestatic 12) 3 144 := ⟨by decide +kernel, rfl⟩
theorem d_Law_law_144 : Dc b_Law_law 144 (.bipush 7) 2 146 := ⟨by decide +kernel, rfl⟩
theorem d_Law_law_146 : Dc b_Law_law 146 .ishr 1 147 := ⟨by decide +kernel, rfl⟩
theorem d_Law_law_147 : Dc b_Law_law 147 (.iconst 3) 1 148 := ⟨by decide +kernel, rfl⟩
theorem d_Law_law_148 : Dc b_Law_law 148 (.invokestatic 18) 3 151 := ⟨by decide +kernel, rfl⟩
theorem d_Law_law_151 : Dc b_Law_law 151 (.aload_n 0) 1 152 := ⟨by decide +kernel, rfl⟩
theorem d_Law_law_152 : Dc b_Law_law 152 (.iload_n 3) 1 153 := ⟨by decide +kernel, rfl⟩
theorem d_Law_law_153 : Dc b_Law_law 153 (.bipush 11) 2 155 := ⟨by decide +kernel, rfl⟩
theorem d_Law_law_155 : Dc b_Law_law 155 .iadd 1 156 := ⟨by decide +kernel, rfl⟩
theorem d_Law_law_156 : Dc b_Law_law 156 (.invokestatic 12) 3 159 := ⟨by decide +kernel, rfl⟩
theorem d_Law_law_159 : Dc b_Law_law 159 (.iconst 3) 1 160 := ⟨by decide +kernel, rfl⟩
theorem d_Law_law_160 : Dc b_Law_law 160 (.invokestatic 18) 3 163 := ⟨by decide +kernel, rfl⟩
theorem d_Law_law_163 : Dc b_Law_law 163 (.invokevirtual 29) 3 166 := ⟨by decide +kernel, rfl⟩
theorem d_Law_law_166 : Dc b_Law_law 166 (.iload_n 3) 1 167 := ⟨by decide +kernel, rfl⟩
theorem d_Law_law_167 : Dj b_Law_law 167 (.if_icmp .eq) 172 170 := ⟨5, by decide +kernel, by decide, rfl⟩
theorem d_Law_law_170 : Dc b_Law_law 170 (.iconst 0) 1 171 := ⟨by decide +kernel, rfl⟩
theorem d_Law_law_171 : Dc b_Law_law 171 .ireturn 1 172 := ⟨by decide +kernel, rfl⟩
theorem d_Law_law_172 : Dc b_Law_law 172 (.iinc 3 1) 3 175 := ⟨by decide +kernel, rfl⟩
theorem d_Law_law_175 : Dj b_Law_law 175 .goto 114 178 := ⟨-61, by decide +kernel, by decide, rfl⟩
theorem d_Law_law_178 : Dc b_Law_law 178 (.iconst 0) 1 179 := ⟨by decide +kernel, rfl⟩
theorem d_Law_law_179 : Dc b_Law_law 179 (.istore_n 3) 1 180 := ⟨by decide +kernel, rfl⟩
theorem d_Law_law_180 : Dc b_Law_law 180 (.iconst 0) 1 181 := ⟨by decide +kernel, rfl⟩
theorem d_Law_law_181 : Dc b_Law_law 181 (.istore 4) 2 183 := ⟨by decide +kernel, rfl⟩
theorem d_Law_law_183 : Dc b_Law_law 183 (.iconst 0) 1 184 := ⟨by decide +kernel, rfl⟩
theorem d_Law_law_184 : Dc b_Law_law 184 (.istore 5) 2 186 := ⟨by decide +kernel, rfl⟩
theorem d_Law_law_186 : Dc b_Law_law 186 (.iconst 0) 1 187 := ⟨by decide +kernel, rfl⟩
theorem d_Law_law_187 : Dc b_Law_law 187 (.istore 6) 2 189 := ⟨by decide +kernel, rfl⟩
theorem d_Law_law_189 : Dc b_Law_law 189 (.iload 6) 2 191 := ⟨by decide +kernel, rfl⟩
theorem d_Law_law_191 : Dc b_Law_law 191 (.bipush 40) 2 193 := ⟨by decide +kernel, rfl⟩
theorem d_Law_law_193 : Dj b_Law_law 193 (.if_icmp .ge) 667 196 := ⟨474, by decide +kernel, by decide, rfl⟩
theorem d_Law_law_196 : Dc b_Law_law 196 (.aload_n 0) 1 197 := ⟨by decide +kernel, rfl⟩
theorem d_Law_law_197 : Dc b_Law_law 197 (.iload 6) 2 199 := ⟨by decide +kernel, rfl⟩
theorem d_Law_law_199 : Dc b_Law_law 199 (.bipush 16) 2 201 := ⟨by decide +kernel, rfl⟩
theorem d_Law_law_201 : Dc b_Law_law 201 .irem 1 202 := ⟨by decide +kernel, rfl⟩
theorem d_Law_law_202 : Dc b_Law_law 202 (.invokestatic 12) 3 205 := ⟨by decide +kernel, rfl⟩
theorem d_Law_law_205 : Dc b_Law_law 205 (.bipush 31) 2 207 := ⟨by decide +kernel, rfl⟩
theorem d_Law_law_207 : Dc b_Law_law 207 (.iload 6) 2 209 := ⟨by decide +kernel, rfl⟩
theorem d_Law_law_209 : Dc b_Law_law 209 .imul 1 210 := ⟨by decide +kernel, rfl⟩
theorem d_Law_law_210 : Dc b_Law_law 210 .iadd 1 211 := ⟨by decide +kernel, rfl⟩
theorem d_Law_law_211 : Dc b_Law_law 211 (.istore 7) 2 213 := ⟨by decide +kernel, rfl⟩
theorem d_Law_law_213 : Dc b_Law_law 213 (.aload_n 0) 1 214 := ⟨by decide +kernel, rfl⟩
theorem d_Law_law_214 : Dc b_Law_law 214 (.bipush 7) 2 216 := ⟨by decide +kernel, rfl⟩
theorem d_Law_law_216 : Dc b_Law_law 216 (.iload 6) 2 218 := ⟨by decide +kernel, rfl⟩
theorem d_Law_law_218 : Dc b_Law_law 218 .imul 1 219 := ⟨by decide +kernel, rfl⟩
theorem d_Law_law_219 : Dc b_Law_law 219 (.iconst 4) 1 220 := ⟨by decide +kernel, rfl⟩
theorem d_Law_law_220 : Dc b_Law_law 220 .iadd 1 221 := ⟨by decide +kernel, rfl⟩
theorem d_Law_law_221 : Dc b_Law_law 221 (.bipush 16) 2 223 := ⟨by decide +kernel, rfl⟩
theorem d_Law_law_223 : Dc b_Law_law 223 .irem 1 224 := ⟨by decide +kernel, rfl⟩
theorem d_Law_law_224 : Dc b_Law_law 224 (.invokestatic 12) 3 227 := ⟨by decide +kernel, rfl⟩
theorem d_Law_law_227 : Dc b_Law_law 227 (.iconst 5) 1 228 := ⟨by decide +kernel, rfl⟩
theorem d_Law_law_228 : Dc b_Law_law 228 (.iload 6) 2 230 := ⟨by decide +kernel, rfl⟩
theorem d_Law_law_230 : Dc b_Law_law 230 .imul 1 231 := ⟨by decide +kernel, rfl⟩
theorem d_Law_law_231 : Dc b_Law_law 231 .iadd 1 232 := ⟨by decide +kernel, rfl⟩
theorem d_Law_law_232 : Dc b_Law_law 232 (.istore 8) 2 234 := ⟨by decide +kernel, rfl⟩
theorem d_Law_law_234 : Dc b_Law_law 234 (.iload 8) 2 236 := ⟨by decide +kernel, rfl⟩
theorem d_Law_law_236 : Dc b_Law_law 236 (.iload_n 2) 1 237 := ⟨by decide +kernel, rfl⟩
theorem d_Law_law_237 : Dc b_Law_law 237 (.invokestatic 18) 3 240 := ⟨by decide +kernel, rfl⟩
theorem d_Law_law_240 : Dc b_Law_law 240 (.istore 9) 2 242 := ⟨by decide +kernel, rfl⟩
theorem d_Law_law_242 : Dc b_Law_law 242 (.iload 7) 2 244 := ⟨by decide +kernel, rfl⟩
theorem d_Law_law_244 : Dc b_Law_law 244 (.bipush 12) 2 246 := ⟨by decide +kernel, rfl⟩
theorem d_Law_law_246 : Dc b_Law_law 246 (.invokestatic 18) 3 249 := ⟨by decide +kernel, rfl⟩
theorem d_Law_law_249 : Dc b_Law_law 249 (.tableswitch 365 0 8 #[51, 79, 145, 145, 194, 236, 236, 339, 339]) 51 300 := ⟨by decide +kernel, rfl⟩
theorem d_Law_law_300 : Dc b_Law_law 300 (.aload_n 1) 1 301 := ⟨by decide +kernel, rfl⟩
theorem d_Law_law_301 : Dc b_Law_law 301 (.iload 9) 2 303 := ⟨by decide +kernel, rfl⟩
theorem d_Law_law_303 : Dc b_Law_law 303 (.iload 8) 2 305 := ⟨by decide +kernel, rfl⟩
theorem d_Law_law_305 : Dc b_Law_law 305 (.iconst 3) 1 306 := ⟨by decide +kernel, rfl⟩
theorem d_Law_law_306 : Dc b_Law_law 306 .ishr 1 307 := ⟨by decide +kernel, rfl⟩
theorem d_Law_law_307 : Dc b_Law_law 307 (.iconst 3) 1 308 := ⟨by decide +kernel, rfl⟩
theorem d_Law_law_308 : Dc b_Law_law 308 (.invokestatic 18) 3 311 := ⟨by decide +kernel, rfl⟩
theorem d_Law_law_311 : Dc b_Law_law 311 (.iload 8) 2 313 := ⟨by decide +kernel, rfl⟩
theorem d_Law_law_313 : Dc b_Law_law 313 (.iconst 5) 1 314 := ⟨by decide +kernel, rfl⟩
theorem d_Law_law_314 : Dc b_Law_law 314 .ishr 1 315 := ⟨by decide +kernel, rfl⟩
theorem d_Law_law_315 : Dc b_Law_law 315 (.bipush 10) 2 317 := ⟨by decide +kernel, rfl⟩
theorem d_Law_law_317 : Dc b_Law_law 317 (.invokestatic 18) 3 320 := ⟨by decide +kernel, rfl⟩
theorem d_Law_law_320 : Dc b_Law_law 320 (.invokevirtual 25) 3 323 := ⟨by decide +kernel, rfl⟩
theorem d_Law_law_323 : Dj b_Law_law 323 (.ifCond .ge) 646 326 := ⟨323, by decide +kernel, by decide, rfl⟩
theorem d_Law_law_326 : Dc b_Law_law 326 (.iconst 0) 1 327 := ⟨by decide +kernel, rfl⟩
theorem d_Law_law_327 : Dc b_Law_law 327 .ireturn 1 328 := ⟨by decide +kernel, rfl⟩
theorem d_Law_law_328 : Dc b_Law_law 328 (.aload_n 1) 1 329 := ⟨by decide +kernel, rfl⟩
theorem d_Law_law_329 : Dc b_Law_law 329 (.iload 8) 2 331 := ⟨by decide +kernel, rfl⟩
theorem d_Law_law_331 : Dc b_Law_law 331 (.bipush 101) 2 333 := ⟨by decide +kernel, rfl⟩
theorem d_Law_law_333 : Dc b_Law_law 333 (.invokestatic 18) 3 336 := ⟨by decide +kernel, rfl⟩
theorem d_Law_law_336 : Dc b_Law_law 336 (.invokevirtual 32) 3 339 := ⟨by decide +kernel, rfl⟩
theorem d_Law_law_339 : Dj b_Law_law 339 (.ifCond .lt) 392 342 := ⟨53, by decide +kernel, by decide, rfl⟩
theorem d_Law_law_342 : Dc b_Law_law 342 (.aload_n 1) 1 343 := ⟨by decide +kernel, rfl⟩
theorem d_Law_law_343 : Dc b_Law_law 343 (.iload 8) 2 345 := ⟨by decide +kernel, rfl⟩
theorem d_Law_law_345 : Dc b_Law_law 345 (.iconst 3) 1 346 := ⟨by decide +kernel, rfl⟩
theorem d_Law_law_346 : Dc b_Law_law 346 .ishr 1 347 := ⟨by decide +kernel, rfl⟩
theorem d_Law_law_347 : Dc b_Law_law 347 (.bipush 20) 2 349 := ⟨by decide +kernel, rfl⟩
theorem d_Law_law_349 : Dc b_Law_law 349 (.invokestatic 18) 3 352 := ⟨by decide +kernel, rfl⟩
theorem d_Law_law_352 : Dc b_Law_law 352 (.invokevirtual 36) 3 355 := ⟨by decide +kernel, rfl⟩
theorem d_Law_law_355 : Dj b_Law_law 355 (.ifCond .lt) 392 358 := ⟨37, by decide +kernel, by decide, rfl⟩
theorem d_Law_law_358 : Dc b_Law_law 358 (.aload_n 1) 1 359 := ⟨by decide +kernel, rfl⟩
theorem d_Law_law_359 : Dc b_Law_law 359 (.iload 8) 2 361 := ⟨by decide +kernel, rfl⟩
theorem d_Law_law_361 : Dc b_Law_law 361 (.iconst 2) 1 362 := ⟨by decide +kernel, rfl⟩
theorem d_Law_law_362 : Dc b_Law_law 362 .ishr 1 363 := ⟨by decide +kernel, rfl⟩
theorem d_Law_law_363 : Dc b_Law_law 363 (.bipush 90) 2 365 := ⟨by decide +kernel, rfl⟩
theorem d_Law_law_365 : Dc b_Law_law 365 (.invokestatic 18) 3 368 := ⟨by decide +kernel, rfl⟩
theorem d_Law_law_368 : Dc b_Law_law 368 (.invokevirtual 39) 3 371 := ⟨by decide +kernel, rfl⟩
theorem d_Law_law_371 : Dj b_Law_law 371 (.ifCond .lt) 392 374 := ⟨21, by decide +kernel, by decide, rfl⟩
theorem d_Law_law_374 : Dc b_Law_law 374 (.aload_n 1) 1 375 := ⟨by decide +kernel, rfl⟩
theorem d_Law_law_375 : Dc b_Law_law 375 (.iload 9) 2 377 := ⟨by decide +kernel, rfl⟩
theorem d_Law_law_377 : Dc b_Law_law 377 (.iload 8) 2 379 := ⟨by decide +kernel, rfl⟩
theorem d_Law_law_379 : Dc b_Law_law 379 (.bipush 6) 2 381 := ⟨by decide +kernel, rfl⟩
theorem d_Law_law_381 : Dc b_Law_law 381 .ishr 1 382 := ⟨by decide +kernel, rfl⟩
theorem d_Law_law_382 : Dc b_Law_law 382 (.iconst 5) 1 383 := ⟨by decide +kernel, rfl⟩
theorem d_Law_law_383 : Dc b_Law_law 383 (.invokestatic 18) 3 386 := ⟨by decide +kernel, rfl⟩
theorem d_Law_law_386 : Dc b_Law_law 386 (.invokevirtual 42) 3 389 := ⟨by decide +kernel, rfl⟩
theorem d_Law_law_389 : Dj b_Law_law 389 (.ifCond .ge) 646 392 := ⟨257, by decide +kernel, by decide, rfl⟩
theorem d_Law_law_392 : Dc b_Law_law 392 (.iconst 0) 1 393 := ⟨by decide +kernel, rfl⟩
theorem d_Law_law_393 : Dc b_Law_law 393 .ireturn 1 394 := ⟨by decide +kernel, rfl⟩
theorem d_Law_law_394 : Dc b_Law_law 394 (.aload_n 1) 1 395 := ⟨by decide +kernel, rfl⟩
theorem d_Law_law_395 : Dc b_Law_law 395 (.iload 7) 2 397 := ⟨by decide +kernel, rfl⟩
theorem d_Law_law_397 : Dc b_Law_law 397 (.iconst 4) 1 398 := ⟨by decide +kernel, rfl⟩
theorem d_Law_law_398 : Dc b_Law_law 398 .ishr 1 399 := ⟨by decide +kernel, rfl⟩
theorem d_Law_law_399 : Dc b_Law_law 399 (.iconst 2) 1 400 := ⟨by decide +kernel, rfl⟩
theorem d_Law_law_400 : Dc b_Law_law 400 (.invokestatic 18) 3 403 := ⟨by decide +kernel, rfl⟩
theorem d_Law_law_403 : Dc b_Law_law 403 (.iload 8) 2 405 := ⟨by decide +kernel, rfl⟩
theorem d_Law_law_405 : Dc b_Law_law 405 (.bipush 7) 2 407 := ⟨by decide +kernel, rfl⟩
theorem d_Law_law_407 : Dc b_Law_law 407 (.invokestatic 18) 3 410 := ⟨by decide +kernel, rfl⟩
theorem d_Law_law_410 : Dc b_Law_law 410 (.invokevirtual 45) 3 413 := ⟨by decide +kernel, rfl⟩
theorem d_Law_law_413 : Dj b_Law_law 413 (.ifCond .lt) 441 416 := ⟨28, by decide +kernel, by decide, rfl⟩
theorem d_Law_law_416 : Dc b_Law_law 416 (.aload_n 1) 1 417 := ⟨by decide +kernel, rfl⟩
theorem d_Law_law_417 : Dc b_Law_law 417 (.iload 7) 2 419 := ⟨by decide +kernel, rfl⟩
theorem d_Law_law_419 : Dc b_Law_law 419 (.iconst 4) 1 420 := ⟨by decide +kernel, rfl⟩
theorem d_Law_law_420 : Dc b_Law_law 420 .ishr 1 421 := ⟨by decide +kernel, rfl⟩
theorem d_Law_law_421 : Dc b_Law_law 421 (.iconst 2) 1 422 := ⟨by decide +kernel, rfl⟩
theorem d_Law_law_422 : Dc b_Law_law 422 (.invokestatic 18) 3 425 := ⟨by decide +kernel, rfl⟩
theorem d_Law_law_425 : Dc b_Law_law 425 (.iload 8) 2 427 := ⟨by decide +kernel, rfl⟩
theorem d_Law_law_427 : Dc b_Law_law 427 (.bipush 7) 2 429 := ⟨by decide +kernel, rfl⟩
theorem d_Law_law_429 : Dc b_Law_law 429 (.invokestatic 18) 3 432 := ⟨by decide +kernel, rfl⟩
theorem d_Law_law_432 : Dc b_Law_law 432 (.iload 9) 2 434 := ⟨by decide +kernel, rfl⟩
theorem d_Law_law_434 : Dc b_Law_law 434 (.invokevirtual 48) 3 437 := ⟨by decide +kernel, rfl⟩
theorem d_Law_law_437 : Dc b_Law_law 437 (.iconst 1) 1 438 := ⟨by decide +kernel, rfl⟩
theorem d_Law_law_438 : Dj b_Law_law 438 (.if_icmp .eq) 646 441 := ⟨208, by decide +kernel, by decide, rfl⟩
theorem d_Law_law_441 : Dc b_Law_law 441 (.iconst 0) 1 442 := ⟨by decide +kernel, rfl⟩
theorem d_Law_law_442 : Dc b_Law_law 442 .ireturn 1 443 := ⟨by decide +kernel, rfl⟩
theorem d_Law_law_443 : Dc b_Law_law 443 (.aload_n 1) 1 444 := ⟨by decide +kernel, rfl⟩
theorem d_Law_law_444 : Dc b_Law_law 444 (.iload 9) 2 446 := ⟨by decide +kernel, rfl⟩
theorem d_Law_law_446 : Dc b_Law_law 446 (.iconst 2) 1 447 := ⟨by decide +kernel, rfl⟩
theorem d_Law_law_447 : Dc b_Law_law 447 (.invokevirtual 51) 3 450 := ⟨by decide +kernel, rfl⟩
theorem d_Law_law_450 : Dc b_Law_law 450 (.istore 10) 2 452 := ⟨by decide +kernel, rfl⟩
theorem d_Law_law_452 : Dc b_Law_law 452 (.aload_n 1) 1 453 := ⟨by decide +kernel, rfl⟩
theorem d_Law_law_453 : Dc b_Law_law 453 (.iload 9) 2 455 := ⟨by decide +kernel, rfl⟩
theorem d_Law_law_455 : Dc b_Law_law 455 (.invokevirtual 54) 3 458 := ⟨by decide +kernel, rfl⟩
theorem d_Law_law_458 : Dc b_Law_law 458 (.iload 10) 2 460 := ⟨by decide +kernel, rfl⟩
theorem d_Law_law_460 : Dj b_Law_law 460 (.if_icmp .ne) 473 463 := ⟨13, by decide +kernel, by decide, rfl⟩
theorem d_Law_law_463 : Dc b_Law_law 463 (.aload_n 1) 1 464 := ⟨by decide +kernel, rfl⟩
theorem d_Law_law_464 : Dc b_Law_law 464 (.iload 9) 2 466 := ⟨by decide +kernel, rfl⟩
theorem d_Law_law_466 : Dc b_Law_law 466 (.iconst 2) 1 467 := ⟨by decide +kernel, rfl⟩
theorem d_Law_law_467 : Dc b_Law_law 467 (.invokevirtual 51) 3 470 := ⟨by decide +kernel, rfl⟩
theorem d_Law_law_470 : Dj b_Law_law 470 (.ifCond .eq) 475 473 := ⟨5, by decide +kernel, by decide, rfl⟩
theorem d_Law_law_473 : Dc b_Law_law 473 (.iconst 0) 1 474 := ⟨by decide +kernel, rfl⟩
theorem d_Law_law_474 : Dc b_Law_law 474 .ireturn 1 475 := ⟨by decide +kernel, rfl⟩
theorem d_Law_law_475 : Dc b_Law_law 475 (.iload 4) 2 477 := ⟨by decide +kernel, rfl⟩
theorem d_Law_law_477 : Dc b_Law_law 477 (.iload 10) 2 479 := ⟨by decide +kernel, rfl⟩
theorem d_Law_law_479 : Dc b_Law_law 479 .iadd 1 480 := ⟨by decide +kernel, rfl⟩
theorem d_Law_law_480 : Dc b_Law_law 480 (.istore 4) 2 482 := ⟨by decide +kernel, rfl⟩
theorem d_Law_law_482 : Dj b_Law_law 482 .goto 646 485 := ⟨164, by decide +kernel, by decide, rfl⟩
theorem d_Law_law_485 : Dc b_Law_law 485 (.aload_n 1) 1 486 := ⟨by decide +kernel, rfl⟩
theorem d_Law_law_486 : Dc b_Law_law 486 (.iconst 3) 1 487 := ⟨by decide +kernel, rfl⟩
theorem d_Law_law_487 : Dc b_Law_law 487 (.invokevirtual 57) 3 490 := ⟨by decide +kernel, rfl⟩
theorem d_Law_law_490 : Dj b_Law_law 490 (.ifCond .ne) 496 493 := ⟨6, by decide +kernel, by decide, rfl⟩
theorem d_Law_law_493 : Dj b_Law_law 493 .goto 646 496 := ⟨153, by decide +kernel, by decide, rfl⟩
theorem d_Law_law_496 : Dc b_Law_law 496 (.iload 8) 2 498 := ⟨by decide +kernel, rfl⟩
theorem d_Law_law_498 : Dc b_Law_law 498 (.aload_n 1) 1 499 := ⟨by decide +kernel, rfl⟩
theorem d_Law_law_499 : Dc b_Law_law 499 (.iconst 3) 1 500 := ⟨by decide +kernel, rfl⟩
theorem d_Law_law_500 : Dc b_Law_law 500 (.invokevirtual 57) 3 503 := ⟨by decide +kernel, rfl⟩
theorem d_Law_law_503 : Dc b_Law_law 503 (.invokestatic 18) 3 506 := ⟨by decide +kernel, rfl⟩
theorem d_Law_law_506 : Dc b_Law_law 506 (.istore 11) 2 508 := ⟨by decide +kernel, rfl⟩
theorem d_Law_law_508 : Dc b_Law_law 508 (.aload_n 1) 1 509 := ⟨by decide +kernel, rfl⟩
theorem d_Law_law_509 : Dc b_Law_law 509 (.iload 11) 2 511 := ⟨by decide +kernel, rfl⟩
theorem d_Law_law_511 : Dc b_Law_law 511 (.iconst 0) 1 512 := ⟨by decide +kernel, rfl⟩
theorem d_Law_law_512 : Dc b_Law_law 512 (.invokevirtual 60) 3 515 := ⟨by decide +kernel, rfl⟩
theorem d_Law_law_515 : Dc b_Law_law 515 (.aload_n 1) 1 516 := ⟨by decide +kernel, rfl⟩
theorem d_Law_law_516 : Dc b_Law_law 516 (.iload 11) 2 518 := ⟨by decide +kernel, rfl⟩
theorem d_Law_law_518 : Dc b_Law_law 518 (.iconst 1) 1 519 := ⟨by decide +kernel, rfl⟩
theorem d_Law_law_519 : Dc b_Law_law 519 (.invokevirtual 60) 3 522 := ⟨by decide +kernel, rfl⟩
theorem d_Law_law_522 : Dc b_Law_law 522 .iadd 1 523 := ⟨by decide +kernel, rfl⟩
theorem d_Law_law_523 : Dc b_Law_law 523 (.istore 12) 2 525 := ⟨by decide +kernel, rfl⟩
theorem d_Law_law_525 : Dc b_Law_law 525 (.aload_n 1) 1 526 := ⟨by decide +kernel, rfl⟩
theorem d_Law_law_526 : Dc b_Law_law 526 (.iload 11) 2 528 := ⟨by decide +kernel, rfl⟩
theorem d_Law_law_528 : Dc b_Law_law 528 (.iconst 2) 1 529 := ⟨by decide +kernel, rfl⟩
theorem d_Law_law_529 : Dc b_Law_law 529 (.invokevirtual 60) 3 532 := ⟨by decide +kernel, rfl⟩
theorem d_Law_law_532 : Dj b_Law_law 532 (.ifCond .ne) 564 535 := ⟨32, by decide +kernel, by decide, rfl⟩
theorem d_Law_law_535 : Dc b_Law_law 535 (.aload_n 1) 1 536 := ⟨by decide +kernel, rfl⟩
theorem d_Law_law_536 : Dc b_Law_law 536 (.iload 11) 2 538 := ⟨by decide +kernel, rfl⟩
theorem d_Law_law_538 : Dc b_Law_law 538 (.iload 8) 2 540 := ⟨by decide +kernel, rfl⟩
theorem d_Law_law_540 : Dc b_Law_law 540 (.iconst 4) 1 541 := ⟨by decide +kernel, rfl⟩
theorem d_Law_law_541 : Dc b_Law_law 541 .ishr 1 542 := ⟨by decide +kernel, rfl⟩
theorem d_Law_law_542 : Dc b_Law_law 542 (.bipush 20) 2 544 := ⟨by decide +kernel, rfl⟩
theorem d_Law_law_544 : Dc b_Law_law 544 (.invokestatic 18) 3 547 := ⟨by decide +kernel, rfl⟩
theorem d_Law_law_547 : Dc b_Law_law 547 (.iconst 5) 1 548 := ⟨by decide +kernel, rfl⟩
theorem d_Law_law_548 : Dc b_Law_law 548 (.invokevirtual 63) 3 551 := ⟨by decide +kernel, rfl⟩
theorem d_Law_law_551 : Dj b_Law_law 551 (.ifCond .eq) 564 554 := ⟨13, by decide +kernel, by decide, rfl⟩
theorem d_Law_law_554 : Dc b_Law_law 554 (.iload 5) 2 556 := ⟨by decide +kernel, rfl⟩
theorem d_Law_law_556 : Dc b_Law_law 556 (.iload 12) 2 558 := ⟨by decide +kernel, rfl⟩
theorem d_Law_law_558 : Dc b_Law_law 558 .iadd 1 559 := ⟨by decide +kernel, rfl⟩
theorem d_Law_law_559 : Dc b_Law_law 559 (.istore 5) 2 561 := ⟨by decide +kernel, rfl⟩
theorem d_Law_law_561 : Dj b_Law_law 561 .goto 646 564 := ⟨85, by decide +kernel, by decide, rfl⟩
theorem d_Law_law_564 : Dc b_Law_law 564 (.aload_n 1) 1 565 := ⟨by decide +kernel, rfl⟩
theorem d_Law_law_565 : Dc b_Law_law 565 (.iload 11) 2 567 := ⟨by decide +kernel, rfl⟩
theorem d_Law_law_567 : Dc b_Law_law 567 (.iconst 2) 1 568 := ⟨by decide +kernel, rfl⟩
theorem d_Law_law_568 : Dc b_Law_law 568 (.invokevirtual 60) 3 571 := ⟨by decide +kernel, rfl⟩
theorem d_Law_law_571 : Dc b_Law_law 571 (.iconst 2) 1 572 := ⟨by decide +kernel, rfl⟩
theorem d_Law_law_572 : Dj b_Law_law 572 (.if_icmp .ne) 646 575 := ⟨74, by decide +kernel, by decide, rfl⟩
theorem d_Law_law_575 : Dc b_Law_law 575 (.aload_n 1) 1 576 := ⟨by decide +kernel, rfl⟩
theorem d_Law_law_576 : Dc b_Law_law 576 (.iload 11) 2 578 := ⟨by decide +kernel, rfl⟩
theorem d_Law_law_578 : Dc b_Law_law 578 (.invokevirtual 67) 3 581 := ⟨by decide +kernel, rfl⟩
theorem d_Law_law_581 : Dc b_Law_law 581 (.bipush 40) 2 583 := ⟨by decide +kernel, rfl⟩
theorem d_Law_law_583 : Dj b_Law_law 583 (.if_icmp .ge) 646 586 := ⟨63, by decide +kernel, by decide, rfl⟩
theorem d_Law_law_586 : Dc b_Law_law 586 (.iconst 0) 1 587 := ⟨by decide +kernel, rfl⟩
theorem d_Law_law_587 : Dc b_Law_law 587 .ireturn 1 588 := ⟨by decide +kernel, rfl⟩
theorem d_Law_law_588 : Dc b_Law_law 588 (.iload_n 3) 1 589 := ⟨by decide +kernel, rfl⟩
theorem d_Law_law_589 : Dc b_Law_law 589 (.aload_n 1) 1 590 := ⟨by decide +kernel, rfl⟩
theorem d_Law_law_590 : Dc b_Law_law 590 (.iload_n 2) 1 591 := ⟨by decide +kernel, rfl⟩
theorem d_Law_law_591 : Dc b_Law_law 591 (.iconst 1) 1 592 := ⟨by decide +kernel, rfl⟩
theorem d_Law_law_592 : Dc b_Law_law 592 (.invokestatic 70) 3 595 := ⟨by decide +kernel, rfl⟩
theorem d_Law_law_595 : Dc b_Law_law 595 .iadd 1 596 := ⟨by decide +kernel, rfl⟩
theorem d_Law_law_596 : Dc b_Law_law 596 (.istore_n 3) 1 597 := ⟨by decide +kernel, rfl⟩
theorem d_Law_law_597 : Dc b_Law_law 597 (.aload_n 1) 1 598 := ⟨by decide +kernel, rfl⟩
theorem d_Law_law_598 : Dc b_Law_law 598 (.iload 7) 2 600 := ⟨by decide +kernel, rfl⟩
theorem d_Law_law_600 : Dc b_Law_law 600 (.iconst 4) 1 601 := ⟨by decide +kernel, rfl⟩
theorem d_Law_law_601 : Dc b_Law_law 601 .ishr 1 602 := ⟨by decide +kernel, rfl⟩
theorem d_Law_law_602 : Dc b_Law_law 602 (.iconst 2) 1 603 := ⟨by decide +kernel, rfl⟩
theorem d_Law_law_603 : Dc b_Law_law 603 (.invokestatic 18) 3 606 := ⟨by decide +kernel, rfl⟩
theorem d_Law_law_606 : Dc b_Law_law 606 (.invokestatic 74) 3 609 := ⟨by decide +kernel, rfl⟩
theorem d_Law_law_609 : Dj b_Law_law 609 (.ifCond .ne) 646 612 := ⟨37, by decide +kernel, by decide, rfl⟩
theorem d_Law_law_612 : Dc b_Law_law 612 (.iconst 0) 1 613 := ⟨by decide +kernel, rfl⟩
theorem d_Law_law_613 : Dc b_Law_law 613 .ireturn 1 614 := ⟨by decide +kernel, rfl⟩
theorem d_Law_law_614 : Dc b_Law_law 614 (.iconst 1) 1 615 := ⟨by decide +kernel, rfl⟩
theorem d_Law_law_615 : Dc b_Law_law 615 (.iload 8) 2 617 := ⟨by decide +kernel, rfl⟩
theorem d_Law_law_617 : Dc b_Law_law 617 (.iconst 5) 1 618 := ⟨by decide +kernel, rfl⟩
theorem d_Law_law_618 : Dc b_Law_law 618 (.invokestatic 18) 3 621 := ⟨by decide +kernel, rfl⟩
theorem d_Law_law_621 : Dc b_Law_law 621 .iadd 1 622 := ⟨by decide +kernel, rfl⟩
theorem d_Law_law_622 : Dc b_Law_law 622 (.istore 13) 2 624 := ⟨by decide +kernel, rfl⟩
theorem d_Law_law_624 : Dc b_Law_law 624 (.iload_n 3) 1 625 := ⟨by decide +kernel, rfl⟩
theorem d_Law_law_625 : Dc b_Law_law 625 (.aload_n 1) 1 626 := ⟨by decide +kernel, rfl⟩
theorem d_Law_law_626 : Dc b_Law_law 626 (.iload_n 2) 1 627 := ⟨by decide +kernel, rfl⟩
theorem d_Law_law_627 : Dc b_Law_law 627 (.iload 13) 2 629 := ⟨by decide +kernel, rfl⟩
theorem d_Law_law_629 : Dc b_Law_law 629 (.invokestatic 70) 3 632 := ⟨by decide +kernel, rfl⟩
theorem d_Law_law_632 : Dc b_Law_law 632 .iadd 1 633 := ⟨by decide +kernel, rfl⟩
theorem d_Law_law_633 : Dc b_Law_law 633 (.istore_n 3) 1 634 := ⟨by decide +kernel, rfl⟩
theorem d_Law_law_634 : Dc b_Law_law 634 (.aload_n 1) 1 635 := ⟨by decide +kernel, rfl⟩
theorem d_Law_law_635 : Dc b_Law_law 635 (.iload_n 2) 1 636 := ⟨by decide +kernel, rfl⟩
theorem d_Law_law_636 : Dc b_Law_law 636 (.iload 13) 2 638 := ⟨by decide +kernel, rfl⟩
theorem d_Law_law_638 : Dc b_Law_law 638 (.invokestatic 78) 3 641 := ⟨by decide +kernel, rfl⟩
theorem d_Law_law_641 : Dj b_Law_law 641 (.ifCond .ne) 646 644 := ⟨5, by decide +kernel, by decide, rfl⟩
theorem d_Law_law_644 : Dc b_Law_law 644 (.iconst 0) 1 645 := ⟨by decide +kernel, rfl⟩
theorem d_Law_law_645 : Dc b_Law_law 645 .ireturn 1 646 := ⟨by decide +kernel, rfl⟩
theorem d_Law_law_646 : Dc b_Law_law 646 (.aload_n 1) 1 647 := ⟨by decide +kernel, rfl⟩
theorem d_Law_law_647 : Dc b_Law_law 647 (.iload_n 2) 1 648 := ⟨by decide +kernel, rfl⟩
theorem d_Law_law_648 : Dc b_Law_law 648 (.iload_n 3) 1 649 := ⟨by decide +kernel, rfl⟩
theorem d_Law_law_649 : Dc b_Law_law 649 (.iload 4) 2 651 := ⟨by decide +kernel, rfl⟩
theorem d_Law_law_651 : Dc b_Law_law 651 (.iload 5) 2 653 := ⟨by decide +kernel, rfl⟩
theorem d_Law_law_653 : Dc b_Law_law 653 (.invokestatic 82) 3 656 := ⟨by decide +kernel, rfl⟩
theorem d_Law_law_656 : Dj b_Law_law 656 (.ifCond .ne) 661 659 := ⟨5, by decide +kernel, by decide, rfl⟩
theorem d_Law_law_659 : Dc b_Law_law 659 (.iconst 0) 1 660 := ⟨by decide +kernel, rfl⟩
theorem d_Law_law_660 : Dc b_Law_law 660 .ireturn 1 661 := ⟨by decide +kernel, rfl⟩
theorem d_Law_law_661 : Dc b_Law_law 661 (.iinc 6 1) 3 664 := ⟨by decide +kernel, rfl⟩
theorem d_Law_law_664 : Dj b_Law_law 664 .goto 189 667 := ⟨-475, by decide +kernel, by decide, rfl⟩
theorem d_Law_law_667 : Dc b_Law_law 667 (.aload_n 1) 1 668 := ⟨by decide +kernel, rfl⟩
theorem d_Law_law_668 : Dc b_Law_law 668 (.invokevirtual 86) 3 671 := ⟨by decide +kernel, rfl⟩
theorem d_Law_law_671 : Dc b_Law_law 671 (.lstore 6) 2 673 := ⟨by decide +kernel, rfl⟩
theorem d_Law_law_673 : Dc b_Law_law 673 (.aload_n 1) 1 674 := ⟨by decide +kernel, rfl⟩
theorem d_Law_law_674 : Dc b_Law_law 674 (.bipush 30) 2 676 := ⟨by decide +kernel, rfl⟩
theorem d_Law_law_676 : Dc b_Law_law 676 (.invokevirtual 90) 3 679 := ⟨by decide +kernel, rfl⟩
theorem d_Law_law_679 : Dc b_Law_law 679 (.aload_n 1) 1 680 := ⟨by decide +kernel, rfl⟩
theorem d_Law_law_680 : Dc b_Law_law 680 (.bipush 17) 2 682 := ⟨by decide +kernel, rfl⟩
theorem d_Law_law_682 : Dc b_Law_law 682 (.invokevirtual 57) 3 685 := ⟨by decide +kernel, rfl⟩
theorem d_Law_law_685 : Dj b_Law_law 685 (.if_icmp .lt) 707 688 := ⟨22, by decide +kernel, by decide, rfl⟩
theorem d_Law_law_688 : Dc b_Law_law 688 (.aload_n 1) 1 689 := ⟨by decide +kernel, rfl⟩
theorem d_Law_law_689 : Dc b_Law_law 689 (.iconst 0) 1 690 := ⟨by decide +kernel, rfl⟩
theorem d_Law_law_690 : Dc b_Law_law 690 (.invokevirtual 93) 3 693 := ⟨by decide +kernel, rfl⟩
theorem d_Law_law_693 : Dj b_Law_law 693 (.ifCond .lt) 707 696 := ⟨14, by decide +kernel, by decide, rfl⟩
theorem d_Law_law_696 : Dc b_Law_law 696 (.aload_n 1) 1 697 := ⟨by decide +kernel, rfl⟩
theorem d_Law_law_697 : Dc b_Law_law 697 (.invokevirtual 96) 3 700 := ⟨by decide +kernel, rfl⟩
theorem d_Law_law_700 : Dc b_Law_law 700 (.ldc2_w 100) 3 703 := ⟨by decide +kernel, rfl⟩
theorem d_Law_law_703 : Dc b_Law_law 703 (.dcmp .l) 1 704 := ⟨by decide +kernel, rfl⟩
theorem d_Law_law_704 : Dj b_Law_law 704 (.ifCond .le) 709 707 := ⟨5, by decide +kernel, by decide, rfl⟩
theorem d_Law_law_707 : Dc b_Law_law 707 (.iconst 0) 1 708 := ⟨by decide +kernel, rfl⟩
theorem d_Law_law_708 : Dc b_Law_law 708 .ireturn 1 709 := ⟨by decide +kernel, rfl⟩
theorem d_Law_law_709 : Dc b_Law_law 709 (.aload_n 1) 1 710 := ⟨by decide +kernel, rfl⟩
theorem d_Law_law_710 : Dc b_Law_law 710 (.invokevirtual 86) 3 713 := ⟨by decide +kernel, rfl⟩
theorem d_Law_law_713 : Dc b_Law_law 713 (.lload 6) 2 715 := ⟨by decide +kernel, rfl⟩
theorem d_Law_law_715 : Dc b_Law_law 715 .lcmp 1 716 := ⟨by decide +kernel, rfl⟩
theorem d_Law_law_716 : Dj b_Law_law 716 (.ifCond .ne) 723 719 := ⟨7, by decide +kernel, by decide, rfl⟩
theorem d_Law_law_719 : Dc b_Law_law 719 (.iconst 1) 1 720 := ⟨by decide +kernel, rfl⟩
theorem d_Law_law_720 : Dj b_Law_law 720 .goto 724 723 := ⟨4, by decide +kernel, by decide, rfl⟩
theorem d_Law_law_723 : Dc b_Law_law 723 (.iconst 0) 1 724 := ⟨by decide +kernel, rfl⟩
theorem d_Law_law_724 : Dc b_Law_law 724 .ireturn 1 725 := ⟨by decide +kernel, rfl⟩
abbrev b_Bale_init : ByteArray := prog_2_method_1_code
def y_Bale_init : MethodName := ⟨"BinWard$Bale", "<init>", "()V"⟩
theorem d_Bale_init_0 : Dc b_Bale_init 0 (.aload_n 0) 1 1 := ⟨by decide +kernel, rfl⟩
theorem d_Bale_init_1 : Dc b_Bale_init 1 (.invokespecial 3) 3 4 := ⟨by decide +kernel, rfl⟩
theorem d_Bale_init_4 : Dc b_Bale_init 4 (.aload_n 0) 1 5 := ⟨by decide +kernel, rfl⟩
theorem d_Bale_init_5 : Dc b_Bale_init 5 (.iconst 0) 1 6 := ⟨by decide +kernel, rfl⟩
theorem d_Bale_init_6 : Dc b_Bale_init 6 (.putfield 9) 3 9 := ⟨by decide +kernel, rfl⟩
theorem d_Bale_init_9 : Dc b_Bale_init 9 .return_ 1 10 := ⟨by decide +kernel, rfl⟩
abbrev b_Baler_cleanSold : ByteArray := prog_3_method_7_code
def y_Baler_cleanSold : MethodName := ⟨"BinWard$Baler", "cleanSold", "()I"⟩
theorem d_Baler_cleanSold_0 : Dc b_Baler_cleanSold 0 (.iconst 0) 1 1 := ⟨by decide +kernel, rfl⟩
theorem d_Baler_cleanSold_1 : Dc b_Baler_cleanSold 1 (.istore_n 1) 1 2 := ⟨by decide +kernel, rfl⟩
theorem d_Baler_cleanSold_2 : Dc b_Baler_cleanSold 2 (.iconst 0) 1 3 := ⟨by decide +kernel, rfl⟩
theorem d_Baler_cleanSold_3 : Dc b_Baler_cleanSold 3 (.istore_n 2) 1 4 := ⟨by decide +kernel, rfl⟩
theorem d_Baler_cleanSold_4 : Dc b_Baler_cleanSold 4 (.iload_n 2) 1 5 := ⟨by decide +kernel, rfl⟩
theorem d_Baler_cleanSold_5 : Dc b_Baler_cleanSold 5 (.aload_n 0) 1 6 := ⟨by decide +kernel, rfl⟩
theorem d_Baler_cleanSold_6 : Dc b_Baler_cleanSold 6 (.getfield 25) 3 9 := ⟨by decide +kernel, rfl⟩
theorem d_Baler_cleanSold_9 : Dj b_Baler_cleanSold 9 (.if_icmp .ge) 43 12 := ⟨34, by decide +kernel, by decide, rfl⟩
theorem d_Baler_cleanSold_12 : Dc b_Baler_cleanSold 12 (.aload_n 0) 1 13 := ⟨by decide +kernel, rfl⟩
theorem d_Baler_cleanSold_13 : Dc b_Baler_cleanSold 13 (.getfield 11) 3 16 := ⟨by decide +kernel, rfl⟩
theorem d_Baler_cleanSold_16 : Dc b_Baler_cleanSold 16 (.iload_n 2) 1 17 := ⟨by decide +kernel, rfl⟩
theorem d_Baler_cleanSold_17 : Dc b_Baler_cleanSold 17 .aaload 1 18 := ⟨by decide +kernel, rfl⟩
theorem d_Baler_cleanSold_18 : Dc b_Baler_cleanSold 18 (.getfield 37) 3 21 := ⟨by decide +kernel, rfl⟩
theorem d_Baler_cleanSold_21 : Dc b_Baler_cleanSold 21 (.iconst 1) 1 22 := ⟨by decide +kernel, rfl⟩
theorem d_Baler_cleanSold_22 : Dj b_Baler_cleanSold 22 (.if_icmp .ne) 37 25 := ⟨15, by decide +kernel, by decide, rfl⟩
theorem d_Baler_cleanSold_25 : Dc b_Baler_cleanSold 25 (.iload_n 1) 1 26 := ⟨by decide +kernel, rfl⟩
theorem d_Baler_cleanSold_26 : Dc b_Baler_cleanSold 26 (.aload_n 0) 1 27 := ⟨by decide +kernel, rfl⟩
theorem d_Baler_cleanSold_27 : Dc b_Baler_cleanSold 27 (.getfield 11) 3 30 := ⟨by decide +kernel, rfl⟩
theorem d_Baler_cleanSold_30 : Dc b_Baler_cleanSold 30 (.iload_n 2) 1 31 := ⟨by decide +kernel, rfl⟩
theorem d_Baler_cleanSold_31 : Dc b_Baler_cleanSold 31 .aaload 1 32 := ⟨by decide +kernel, rfl⟩
theorem d_Baler_cleanSold_32 : Dc b_Baler_cleanSold 32 (.getfield 33) 3 35 := ⟨by decide +kernel, rfl⟩
theorem d_Baler_cleanSold_35 : Dc b_Baler_cleanSold 35 .iadd 1 36 := ⟨by decide +kernel, rfl⟩
theorem d_Baler_cleanSold_36 : Dc b_Baler_cleanSold 36 (.istore_n 1) 1 37 := ⟨by decide +kernel, rfl⟩
theorem d_Baler_cleanSold_37 : Dc b_Baler_cleanSold 37 (.iinc 2 1) 3 40 := ⟨by decide +kernel, rfl⟩
theorem d_Baler_cleanSold_40 : Dj b_Baler_cleanSold 40 .goto 4 43 := ⟨-36, by decide +kernel, by decide, rfl⟩
theorem d_Baler_cleanSold_43 : Dc b_Baler_cleanSold 43 (.iload_n 1) 1 44 := ⟨by decide +kernel, rfl⟩
theorem d_Baler_cleanSold_44 : Dc b_Baler_cleanSold 44 .ireturn 1 45 := ⟨by decide +kernel, rfl⟩
abbrev b_Baler_countIn : ByteArray := prog_3_method_5_code
def y_Baler_countIn : MethodName := ⟨"BinWard$Baler", "countIn", "(I)I"⟩
theorem d_Baler_countIn_0 : Dc b_Baler_countIn 0 (.iconst 0) 1 1 := ⟨by decide +kernel, rfl⟩
theorem d_Baler_countIn_1 : Dc b_Baler_countIn 1 (.istore_n 2) 1 2 := ⟨by decide +kernel, rfl⟩
theorem d_Baler_countIn_2 : Dc b_Baler_countIn 2 (.iconst 0) 1 3 := ⟨by decide +kernel, rfl⟩
theorem d_Baler_countIn_3 : Dc b_Baler_countIn 3 (.istore_n 3) 1 4 := ⟨by decide +kernel, rfl⟩
theorem d_Baler_countIn_4 : Dc b_Baler_countIn 4 (.iload_n 3) 1 5 := ⟨by decide +kernel, rfl⟩
theorem d_Baler_countIn_5 : Dc b_Baler_countIn 5 (.aload_n 0) 1 6 := ⟨by decide +kernel, rfl⟩
theorem d_Baler_countIn_6 : Dc b_Baler_countIn 6 (.getfield 25) 3 9 := ⟨by decide +kernel, rfl⟩
theorem d_Baler_countIn_9 : Dj b_Baler_countIn 9 (.if_icmp .ge) 34 12 := ⟨25, by decide +kernel, by decide, rfl⟩
theorem d_Baler_countIn_12 : Dc b_Baler_countIn 12 (.aload_n 0) 1 13 := ⟨by decide +kernel, rfl⟩
theorem d_Baler_countIn_13 : Dc b_Baler_countIn 13 (.getfield 11) 3 16 := ⟨by decide +kernel, rfl⟩
theorem d_Baler_countIn_16 : Dc b_Baler_countIn 16 (.iload_n 3) 1 17 := ⟨by decide +kernel, rfl⟩
theorem d_Baler_countIn_17 : Dc b_Baler_countIn 17 .aaload 1 18 := ⟨by decide +kernel, rfl⟩
theorem d_Baler_countIn_18 : Dc b_Baler_countIn 18 (.getfield 37) 3 21 := ⟨by decide +kernel, rfl⟩
theorem d_Baler_countIn_21 : Dc b_Baler_countIn 21 (.iload_n 1) 1 22 := ⟨by decide +kernel, rfl⟩
theorem d_Baler_countIn_22 : Dj b_Baler_countIn 22 (.if_icmp .ne) 28 25 := ⟨6, by decide +kernel, by decide, rfl⟩
theorem d_Baler_countIn_25 : Dc b_Baler_countIn 25 (.iinc 2 1) 3 28 := ⟨by decide +kernel, rfl⟩
theorem d_Baler_countIn_28 : Dc b_Baler_countIn 28 (.iinc 3 1) 3 31 := ⟨by decide +kernel, rfl⟩
theorem d_Baler_countIn_31 : Dj b_Baler_countIn 31 .goto 4 34 := ⟨-27, by decide +kernel, by decide, rfl⟩
theorem d_Baler_countIn_34 : Dc b_Baler_countIn 34 (.iload_n 2) 1 35 := ⟨by decide +kernel, rfl⟩
theorem d_Baler_countIn_35 : Dc b_Baler_countIn 35 .ireturn 1 36 := ⟨by decide +kernel, rfl⟩
abbrev b_Baler_dirtyInBales : ByteArray := prog_3_method_6_code
def y_Baler_dirtyInBales : MethodName := ⟨"BinWard$Baler", "dirtyInBales", "()I"⟩
theorem d_Baler_dirtyInBales_0 : Dc b_Baler_dirtyInBales 0 (.iconst 0) 1 1 := ⟨by decide +kernel, rfl⟩
theorem d_Baler_dirtyInBales_1 : Dc b_Baler_dirtyInBales 1 (.istore_n 1) 1 2 := ⟨by decide +kernel, rfl⟩
theorem d_Baler_dirtyInBales_2 : Dc b_Baler_dirtyInBales 2 (.iconst 0) 1 3 := ⟨by decide +kernel, rfl⟩
theorem d_Baler_dirtyInBales_3 : Dc b_Baler_dirtyInBales 3 (.istore_n 2) 1 4 := ⟨by decide +kernel, rfl⟩
theorem d_Baler_dirtyInBales_4 : Dc b_Baler_dirtyInBales 4 (.iload_n 2) 1 5 := ⟨by decide +kernel, rfl⟩
theorem d_Baler_dirtyInBales_5 : Dc b_Baler_dirtyInBales 5 (.aload_n 0) 1 6 := ⟨by decide +kernel, rfl⟩
theorem d_Baler_dirtyInBales_6 : Dc b_Baler_dirtyInBales 6 (.getfield 25) 3 9 := ⟨by decide +kernel, rfl⟩
theorem d_Baler_dirtyInBales_9 : Dj b_Baler_dirtyInBales 9 (.if_icmp .ge) 30 12 := ⟨21, by decide +kernel, by decide, rfl⟩
theorem d_Baler_dirtyInBales_12 : Dc b_Baler_dirtyInBales 12 (.iload_n 1) 1 13 := ⟨by decide +kernel, rfl⟩
theorem d_Baler_dirtyInBales_13 : Dc b_Baler_dirtyInBales 13 (.aload_n 0) 1 14 := ⟨by decide +kernel, rfl⟩
theorem d_Baler_dirtyInBales_14 : Dc b_Baler_dirtyInBales 14 (.getfield 11) 3 17 := ⟨by decide +kernel, rfl⟩
theorem d_Baler_dirtyInBales_17 : Dc b_Baler_dirtyInBales 17 (.iload_n 2) 1 18 := ⟨by decide +kernel, rfl⟩
theorem d_Baler_dirtyInBales_18 : Dc b_Baler_dirtyInBales 18 .aaload 1 19 := ⟨by decide +kernel, rfl⟩
theorem d_Baler_dirtyInBales_19 : Dc b_Baler_dirtyInBales 19 (.getfield 32) 3 22 := ⟨by decide +kernel, rfl⟩
theorem d_Baler_dirtyInBales_22 : Dc b_Baler_dirtyInBales 22 .iadd 1 23 := ⟨by decide +kernel, rfl⟩
theorem d_Baler_dirtyInBales_23 : Dc b_Baler_dirtyInBales 23 (.istore_n 1) 1 24 := ⟨by decide +kernel, rfl⟩
theorem d_Baler_dirtyInBales_24 : Dc b_Baler_dirtyInBales 24 (.iinc 2 1) 3 27 := ⟨by decide +kernel, rfl⟩
theorem d_Baler_dirtyInBales_27 : Dj b_Baler_dirtyInBales 27 .goto 4 30 := ⟨-23, by decide +kernel, by decide, rfl⟩
theorem d_Baler_dirtyInBales_30 : Dc b_Baler_dirtyInBales 30 (.iload_n 1) 1 31 := ⟨by decide +kernel, rfl⟩
theorem d_Baler_dirtyInBales_31 : Dc b_Baler_dirtyInBales 31 .ireturn 1 32 := ⟨by decide +kernel, rfl⟩
abbrev b_Baler_init : ByteArray := prog_3_method_1_code
def y_Baler_init : MethodName := ⟨"BinWard$Baler", "<init>", "()V"⟩
theorem d_Baler_init_0 : Dc b_Baler_init 0 (.aload_n 0) 1 1 := ⟨by decide +kernel, rfl⟩
theorem d_Baler_init_1 : Dc b_Baler_init 1 (.invokespecial 3) 3 4 := ⟨by decide +kernel, rfl⟩
theorem d_Baler_init_4 : Dc b_Baler_init 4 (.aload_n 0) 1 5 := ⟨by decide +kernel, rfl⟩
theorem d_Baler_init_5 : Dc b_Baler_init 5 (.bipush 20) 2 7 := ⟨by decide +kernel, rfl⟩
theorem d_Baler_init_7 : Dc b_Baler_init 7 (.anewarray 9) 3 10 := ⟨by decide +kernel, rfl⟩
theorem d_Baler_init_10 : Dc b_Baler_init 10 (.putfield 11) 3 13 := ⟨by decide +kernel, rfl⟩
theorem d_Baler_init_13 : Dc b_Baler_init 13 (.iconst 0) 1 14 := ⟨by decide +kernel, rfl⟩
theorem d_Baler_init_14 : Dc b_Baler_init 14 (.istore_n 1) 1 15 := ⟨by decide +kernel, rfl⟩
theorem d_Baler_init_15 : Dc b_Baler_init 15 (.iload_n 1) 1 16 := ⟨by decide +kernel, rfl⟩
theorem d_Baler_init_16 : Dc b_Baler_init 16 (.bipush 20) 2 18 := ⟨by decide +kernel, rfl⟩
theorem d_Baler_init_18 : Dj b_Baler_init 18 (.if_icmp .ge) 40 21 := ⟨22, by decide +kernel, by decide, rfl⟩
theorem d_Baler_init_21 : Dc b_Baler_init 21 (.aload_n 0) 1 22 := ⟨by decide +kernel, rfl⟩
theorem d_Baler_init_22 : Dc b_Baler_init 22 (.getfield 11) 3 25 := ⟨by decide +kernel, rfl⟩
theorem d_Baler_init_25 : Dc b_Baler_init 25 (.iload_n 1) 1 26 := ⟨by decide +kernel, rfl⟩
theorem d_Baler_init_26 : Dc b_Baler_init 26 (.new 9) 3 29 := ⟨by decide +kernel, rfl⟩
theorem d_Baler_init_29 : Dc b_Baler_init 29 .dup 1 30 := ⟨by decide +kernel, rfl⟩
theorem d_Baler_init_30 : Dc b_Baler_init 30 (.invokespecial 17) 3 33 := ⟨by decide +kernel, rfl⟩
theorem d_Baler_init_33 : Dc b_Baler_init 33 .aastore 1 34 := ⟨by decide +kernel, rfl⟩
theorem d_Baler_init_34 : Dc b_Baler_init 34 (.iinc 1 1) 3 37 := ⟨by decide +kernel, rfl⟩
theorem d_Baler_init_37 : Dj b_Baler_init 37 .goto 15 40 := ⟨-22, by decide +kernel, by decide, rfl⟩
theorem d_Baler_init_40 : Dc b_Baler_init 40 .return_ 1 41 := ⟨by decide +kernel, rfl⟩
abbrev b_Baler_kilos : ByteArray := prog_3_method_2_code
def y_Baler_kilos : MethodName := ⟨"BinWard$Baler", "kilos", "()I"⟩
theorem d_Baler_kilos_0 : Dc b_Baler_kilos 0 (.aload_n 0) 1 1 := ⟨by decide +kernel, rfl⟩
theorem d_Baler_kilos_1 : Dc b_Baler_kilos 1 (.getfield 18) 3 4 := ⟨by decide +kernel, rfl⟩
theorem d_Baler_kilos_4 : Dc b_Baler_kilos 4 (.aload_n 0) 1 5 := ⟨by decide +kernel, rfl⟩
theorem d_Baler_kilos_5 : Dc b_Baler_kilos 5 (.getfield 22) 3 8 := ⟨by decide +kernel, rfl⟩
theorem d_Baler_kilos_8 : Dc b_Baler_kilos 8 .iadd 1 9 := ⟨by decide +kernel, rfl⟩
theorem d_Baler_kilos_9 : Dc b_Baler_kilos 9 .ireturn 1 10 := ⟨by decide +kernel, rfl⟩
abbrev b_Baler_press : ByteArray := prog_3_method_3_code
def y_Baler_press : MethodName := ⟨"BinWard$Baler", "press", "(I)V"⟩
theorem d_Baler_press_0 : Dc b_Baler_press 0 (.aload_n 0) 1 1 := ⟨by decide +kernel, rfl⟩
theorem d_Baler_press_1 : Dc b_Baler_press 1 (.getfield 25) 3 4 := ⟨by decide +kernel, rfl⟩
theorem d_Baler_press_4 : Dc b_Baler_press 4 (.istore_n 2) 1 5 := ⟨by decide +kernel, rfl⟩
theorem d_Baler_press_5 : Dc b_Baler_press 5 (.iload_n 2) 1 6 := ⟨by decide +kernel, rfl⟩
theorem d_Baler_press_6 : Dc b_Baler_press 6 (.bipush 20) 2 8 := ⟨by decide +kernel, rfl⟩
theorem d_Baler_press_8 : Dj b_Baler_press 8 (.if_icmp .ge) 101 11 := ⟨93, by decide +kernel, by decide, rfl⟩
theorem d_Baler_press_11 : Dc b_Baler_press 11 (.aload_n 0) 1 12 := ⟨by decide +kernel, rfl⟩
theorem d_Baler_press_12 : Dc b_Baler_press 12 (.invokevirtual 28) 3 15 := ⟨by decide +kernel, rfl⟩
theorem d_Baler_press_15 : Dc b_Baler_press 15 (.bipush 40) 2 17 := ⟨by decide +kernel, rfl⟩
theorem d_Baler_press_17 : Dj b_Baler_press 17 (.if_icmp .lt) 101 20 := ⟨84, by decide +kernel, by decide, rfl⟩
theorem d_Baler_press_20 : Dc b_Baler_press 20 (.aload_n 0) 1 21 := ⟨by decide +kernel, rfl⟩
theorem d_Baler_press_21 : Dc b_Baler_press 21 (.getfield 11) 3 24 := ⟨by decide +kernel, rfl⟩
theorem d_Baler_press_24 : Dc b_Baler_press 24 (.iload_n 2) 1 25 := ⟨by decide +kernel, rfl⟩
theorem d_Baler_press_25 : Dc b_Baler_press 25 .aaload 1 26 := ⟨by decide +kernel, rfl⟩
theorem d_Baler_press_26 : Dc b_Baler_press 26 (.astore_n 3) 1 27 := ⟨by decide +kernel, rfl⟩
theorem d_Baler_press_27 : Dc b_Baler_press 27 (.aload_n 3) 1 28 := ⟨by decide +kernel, rfl⟩
theorem d_Baler_press_28 : Dc b_Baler_press 28 (.aload_n 0) 1 29 := ⟨by decide +kernel, rfl⟩
theorem d_Baler_press_29 : Dc b_Baler_press 29 (.getfield 22) 3 32 := ⟨by decide +kernel, rfl⟩
theorem d_Baler_press_32 : Dc b_Baler_press 32 (.bipush 40) 2 34 := ⟨by decide +kernel, rfl⟩
theorem d_Baler_press_34 : Dc b_Baler_press 34 .imul 1 35 := ⟨by decide +kernel, rfl⟩
theorem d_Baler_press_35 : Dc b_Baler_press 35 (.aload_n 0) 1 36 := ⟨by decide +kernel, rfl⟩
theorem d_Baler_press_36 : Dc b_Baler_press 36 (.invokevirtual 28) 3 39 := ⟨by decide +kernel, rfl⟩
theorem d_Baler_press_39 : Dc b_Baler_press 39 .idiv 1 40 := ⟨by decide +kernel, rfl⟩
theorem d_Baler_press_40 : Dc b_Baler_press 40 (.putfield 32) 3 43 := ⟨by decide +kernel, rfl⟩
theorem d_Baler_press_43 : Dc b_Baler_press 43 (.aload_n 3) 1 44 := ⟨by decide +kernel, rfl⟩
theorem d_Baler_press_44 : Dc b_Baler_press 44 (.bipush 40) 2 46 := ⟨by decide +kernel, rfl⟩
theorem d_Baler_press_46 : Dc b_Baler_press 46 (.aload_n 3) 1 47 := ⟨by decide +kernel, rfl⟩
theorem d_Baler_press_47 : Dc b_Baler_press 47 (.getfield 32) 3 50 := ⟨by decide +kernel, rfl⟩
theorem d_Baler_press_50 : Dc b_Baler_press 50 .isub 1 51 := ⟨by decide +kernel, rfl⟩
theorem d_Baler_press_51 : Dc b_Baler_press 51 (.putfield 33) 3 54 := ⟨by decide +kernel, rfl⟩
theorem d_Baler_press_54 : Dc b_Baler_press 54 (.aload_n 3) 1 55 := ⟨by decide +kernel, rfl⟩
theorem d_Baler_press_55 : Dc b_Baler_press 55 (.iload_n 1) 1 56 := ⟨by decide +kernel, rfl⟩
theorem d_Baler_press_56 : Dc b_Baler_press 56 (.putfield 34) 3 59 := ⟨by decide +kernel, rfl⟩
theorem d_Baler_press_59 : Dc b_Baler_press 59 (.aload_n 0) 1 60 := ⟨by decide +kernel, rfl⟩
theorem d_Baler_press_60 : Dc b_Baler_press 60 .dup 1 61 := ⟨by decide +kernel, rfl⟩
theorem d_Baler_press_61 : Dc b_Baler_press 61 (.getfield 22) 3 64 := ⟨by decide +kernel, rfl⟩
theorem d_Baler_press_64 : Dc b_Baler_press 64 (.aload_n 3) 1 65 := ⟨by decide +kernel, rfl⟩
theorem d_Baler_press_65 : Dc b_Baler_press 65 (.getfield 32) 3 68 := ⟨by decide +kernel, rfl⟩
theorem d_Baler_press_68 : Dc b_Baler_press 68 .isub 1 69 := ⟨by decide +kernel, rfl⟩
theorem d_Baler_press_69 : Dc b_Baler_press 69 (.putfield 22) 3 72 := ⟨by decide +kernel, rfl⟩
theorem d_Baler_press_72 : Dc b_Baler_press 72 (.aload_n 0) 1 73 := ⟨by decide +kernel, rfl⟩
theorem d_Baler_press_73 : Dc b_Baler_press 73 .dup 1 74 := ⟨by decide +kernel, rfl⟩
theorem d_Baler_press_74 : Dc b_Baler_press 74 (.getfield 18) 3 77 := ⟨by decide +kernel, rfl⟩
theorem d_Baler_press_77 : Dc b_Baler_press 77 (.aload_n 3) 1 78 := ⟨by decide +kernel, rfl⟩
theorem d_Baler_press_78 : Dc b_Baler_press 78 (.getfield 33) 3 81 := ⟨by decide +kernel, rfl⟩
theorem d_Baler_press_81 : Dc b_Baler_press 81 .isub 1 82 := ⟨by decide +kernel, rfl⟩
theorem d_Baler_press_82 : Dc b_Baler_press 82 (.putfield 18) 3 85 := ⟨by decide +kernel, rfl⟩
theorem d_Baler_press_85 : Dc b_Baler_press 85 (.aload_n 0) 1 86 := ⟨by decide +kernel, rfl⟩
theorem d_Baler_press_86 : Dc b_Baler_press 86 .dup 1 87 := ⟨by decide +kernel, rfl⟩
theorem d_Baler_press_87 : Dc b_Baler_press 87 (.getfield 25) 3 90 := ⟨by decide +kernel, rfl⟩
theorem d_Baler_press_90 : Dc b_Baler_press 90 (.iconst 1) 1 91 := ⟨by decide +kernel, rfl⟩
theorem d_Baler_press_91 : Dc b_Baler_press 91 .iadd 1 92 := ⟨by decide +kernel, rfl⟩
theorem d_Baler_press_92 : Dc b_Baler_press 92 (.putfield 25) 3 95 := ⟨by decide +kernel, rfl⟩
theorem d_Baler_press_95 : Dc b_Baler_press 95 (.iinc 2 1) 3 98 := ⟨by decide +kernel, rfl⟩
theorem d_Baler_press_98 : Dj b_Baler_press 98 .goto 5 101 := ⟨-93, by decide +kernel, by decide, rfl⟩
theorem d_Baler_press_101 : Dc b_Baler_press 101 .return_ 1 102 := ⟨by decide +kernel, rfl⟩
abbrev b_Baler_unpack : ByteArray := prog_3_method_4_code
def y_Baler_unpack : MethodName := ⟨"BinWard$Baler", "unpack", "(LBinWard$Bale;)V"⟩
theorem d_Baler_unpack_0 : Dc b_Baler_unpack 0 (.aload_n 0) 1 1 := ⟨by decide +kernel, rfl⟩
theorem d_Baler_unpack_1 : Dc b_Baler_unpack 1 .dup 1 2 := ⟨by decide +kernel, rfl⟩
theorem d_Baler_unpack_2 : Dc b_Baler_unpack 2 (.getfield 18) 3 5 := ⟨by decide +kernel, rfl⟩
theorem d_Baler_unpack_5 : Dc b_Baler_unpack 5 (.aload_n 1) 1 6 := ⟨by decide +kernel, rfl⟩
theorem d_Baler_unpack_6 : Dc b_Baler_unpack 6 (.getfield 33) 3 9 := ⟨by decide +kernel, rfl⟩
theorem d_Baler_unpack_9 : Dc b_Baler_unpack 9 .iadd 1 10 := ⟨by decide +kernel, rfl⟩
theorem d_Baler_unpack_10 : Dc b_Baler_unpack 10 (.putfield 18) 3 13 := ⟨by decide +kernel, rfl⟩
theorem d_Baler_unpack_13 : Dc b_Baler_unpack 13 (.aload_n 0) 1 14 := ⟨by decide +kernel, rfl⟩
theorem d_Baler_unpack_14 : Dc b_Baler_unpack 14 .dup 1 15 := ⟨by decide +kernel, rfl⟩
theorem d_Baler_unpack_15 : Dc b_Baler_unpack 15 (.getfield 22) 3 18 := ⟨by decide +kernel, rfl⟩
theorem d_Baler_unpack_18 : Dc b_Baler_unpack 18 (.aload_n 1) 1 19 := ⟨by decide +kernel, rfl⟩
theorem d_Baler_unpack_19 : Dc b_Baler_unpack 19 (.getfield 32) 3 22 := ⟨by decide +kernel, rfl⟩
theorem d_Baler_unpack_22 : Dc b_Baler_unpack 22 .iadd 1 23 := ⟨by decide +kernel, rfl⟩
theorem d_Baler_unpack_23 : Dc b_Baler_unpack 23 (.putfield 22) 3 26 := ⟨by decide +kernel, rfl⟩
theorem d_Baler_unpack_26 : Dc b_Baler_unpack 26 (.aload_n 1) 1 27 := ⟨by decide +kernel, rfl⟩
theorem d_Baler_unpack_27 : Dc b_Baler_unpack 27 (.iconst 0) 1 28 := ⟨by decide +kernel, rfl⟩
theorem d_Baler_unpack_28 : Dc b_Baler_unpack 28 (.putfield 33) 3 31 := ⟨by decide +kernel, rfl⟩
theorem d_Baler_unpack_31 : Dc b_Baler_unpack 31 (.aload_n 1) 1 32 := ⟨by decide +kernel, rfl⟩
theorem d_Baler_unpack_32 : Dc b_Baler_unpack 32 (.iconst 0) 1 33 := ⟨by decide +kernel, rfl⟩
theorem d_Baler_unpack_33 : Dc b_Baler_unpack 33 (.putfield 32) 3 36 := ⟨by decide +kernel, rfl⟩
theorem d_Baler_unpack_36 : Dc b_Baler_unpack 36 (.aload_n 1) 1 37 := ⟨by decide +kernel, rfl⟩
theorem d_Baler_unpack_37 : Dc b_Baler_unpack 37 (.iconst 3) 1 38 := ⟨by decide +kernel, rfl⟩
theorem d_Baler_unpack_38 : Dc b_Baler_unpack 38 (.putfield 37) 3 41 := ⟨by decide +kernel, rfl⟩
theorem d_Baler_unpack_41 : Dc b_Baler_unpack 41 .return_ 1 42 := ⟨by decide +kernel, rfl⟩
abbrev b_Trip_begin : ByteArray := prog_12_method_3_code
def y_Trip_begin : MethodName := ⟨"BinWard$Trip", "begin", "()V"⟩
theorem d_Trip_begin_0 : Dc b_Trip_begin 0 (.iconst 0) 1 1 := ⟨by decide +kernel, rfl⟩
theorem d_Trip_begin_1 : Dc b_Trip_begin 1 (.istore_n 1) 1 2 := ⟨by decide +kernel, rfl⟩
theorem d_Trip_begin_2 : Dc b_Trip_begin 2 (.iload_n 1) 1 3 := ⟨by decide +kernel, rfl⟩
theorem d_Trip_begin_3 : Dc b_Trip_begin 3 (.iconst 2) 1 4 := ⟨by decide +kernel, rfl⟩
theorem d_Trip_begin_4 : Dj b_Trip_begin 4 (.if_icmp .ge) 27 7 := ⟨23, by decide +kernel, by decide, rfl⟩
theorem d_Trip_begin_7 : Dc b_Trip_begin 7 (.aload_n 0) 1 8 := ⟨by decide +kernel, rfl⟩
theorem d_Trip_begin_8 : Dc b_Trip_begin 8 (.getfield 9) 3 11 := ⟨by decide +kernel, rfl⟩
theorem d_Trip_begin_11 : Dc b_Trip_begin 11 (.iload_n 1) 1 12 := ⟨by decide +kernel, rfl⟩
theorem d_Trip_begin_12 : Dc b_Trip_begin 12 (.iconst 0) 1 13 := ⟨by decide +kernel, rfl⟩
theorem d_Trip_begin_13 : Dc b_Trip_begin 13 .iastore 1 14 := ⟨by decide +kernel, rfl⟩
theorem d_Trip_begin_14 : Dc b_Trip_begin 14 (.aload_n 0) 1 15 := ⟨by decide +kernel, rfl⟩
theorem d_Trip_begin_15 : Dc b_Trip_begin 15 (.getfield 15) 3 18 := ⟨by decide +kernel, rfl⟩
theorem d_Trip_begin_18 : Dc b_Trip_begin 18 (.iload_n 1) 1 19 := ⟨by decide +kernel, rfl⟩
theorem d_Trip_begin_19 : Dc b_Trip_begin 19 (.iconst 0) 1 20 := ⟨by decide +kernel, rfl⟩
theorem d_Trip_begin_20 : Dc b_Trip_begin 20 .iastore 1 21 := ⟨by decide +kernel, rfl⟩
theorem d_Trip_begin_21 : Dc b_Trip_begin 21 (.iinc 1 1) 3 24 := ⟨by decide +kernel, rfl⟩
theorem d_Trip_begin_24 : Dj b_Trip_begin 24 .goto 2 27 := ⟨-22, by decide +kernel, by decide, rfl⟩
theorem d_Trip_begin_27 : Dc b_Trip_begin 27 (.aload_n 0) 1 28 := ⟨by decide +kernel, rfl⟩
theorem d_Trip_begin_28 : Dc b_Trip_begin 28 (.iconst 0) 1 29 := ⟨by decide +kernel, rfl⟩
theorem d_Trip_begin_29 : Dc b_Trip_begin 29 (.putfield 52) 3 32 := ⟨by decide +kernel, rfl⟩
theorem d_Trip_begin_32 : Dc b_Trip_begin 32 (.aload_n 0) 1 33 := ⟨by decide +kernel, rfl⟩
theorem d_Trip_begin_33 : Dc b_Trip_begin 33 (.iconst 0) 1 34 := ⟨by decide +kernel, rfl⟩
theorem d_Trip_begin_34 : Dc b_Trip_begin 34 (.putfield 55) 3 37 := ⟨by decide +kernel, rfl⟩
theorem d_Trip_begin_37 : Dc b_Trip_begin 37 (.aload_n 0) 1 38 := ⟨by decide +kernel, rfl⟩
theorem d_Trip_begin_38 : Dc b_Trip_begin 38 (.iconst 0) 1 39 := ⟨by decide +kernel, rfl⟩
theorem d_Trip_begin_39 : Dc b_Trip_begin 39 (.putfield 58) 3 42 := ⟨by decide +kernel, rfl⟩
theorem d_Trip_begin_42 : Dc b_Trip_begin 42 .return_ 1 43 := ⟨by decide +kernel, rfl⟩
abbrev b_Trip_drive : ByteArray := prog_12_method_2_code
def y_Trip_drive : MethodName := ⟨"BinWard$Trip", "drive", "(LBinWard$Lorry;I[LBinWard$Street;)V"⟩
theorem d_Trip_drive_0 : Dc b_Trip_drive 0 (.aload_n 0) 1 1 := ⟨by decide +kernel, rfl⟩
theorem d_Trip_drive_1 : Dc b_Trip_drive 1 (.invokevirtual 18) 3 4 := ⟨by decide +kernel, rfl⟩
theorem d_Trip_drive_4 : Dc b_Trip_drive 4 (.iconst 0) 1 5 := ⟨by decide +kernel, rfl⟩
theorem d_Trip_drive_5 : Dc b_Trip_drive 5 (.istore 4) 2 7 := ⟨by decide +kernel, rfl⟩
theorem d_Trip_drive_7 : Dc b_Trip_drive 7 (.iconst 0) 1 8 := ⟨by decide +kernel, rfl⟩
theorem d_Trip_drive_8 : Dc b_Trip_drive 8 (.istore 5) 2 10 := ⟨by decide +kernel, rfl⟩
theorem d_Trip_drive_10 : Dc b_Trip_drive 10 (.iconst 0) 1 11 := ⟨by decide +kernel, rfl⟩
theorem d_Trip_drive_11 : Dc b_Trip_drive 11 (.istore 6) 2 13 := ⟨by decide +kernel, rfl⟩
theorem d_Trip_drive_13 : Dc b_Trip_drive 13 (.iload 6) 2 15 := ⟨by decide +kernel, rfl⟩
theorem d_Trip_drive_15 : Dc b_Trip_drive 15 (.aload_n 1) 1 16 := ⟨by decide +kernel, rfl⟩
theorem d_Trip_drive_16 : Dc b_Trip_drive 16 (.getfield 21) 3 19 := ⟨by decide +kernel, rfl⟩
theorem d_Trip_drive_19 : Dc b_Trip_drive 19 (.iload_n 2) 1 20 := ⟨by decide +kernel, rfl⟩
theorem d_Trip_drive_20 : Dc b_Trip_drive 20 .iaload 1 21 := ⟨by decide +kernel, rfl⟩
theorem d_Trip_drive_21 : Dj b_Trip_drive 21 (.if_icmp .ge) 97 24 := ⟨76, by decide +kernel, by decide, rfl⟩
theorem d_Trip_drive_24 : Dc b_Trip_drive 24 (.aload_n 3) 1 25 := ⟨by decide +kernel, rfl⟩
theorem d_Trip_drive_25 : Dc b_Trip_drive 25 (.aload_n 1) 1 26 := ⟨by decide +kernel, rfl⟩
theorem d_Trip_drive_26 : Dc b_Trip_drive 26 (.getfield 26) 3 29 := ⟨by decide +kernel, rfl⟩
theorem d_Trip_drive_29 : Dc b_Trip_drive 29 (.iload_n 2) 1 30 := ⟨by decide +kernel, rfl⟩
theorem d_Trip_drive_30 : Dc b_Trip_drive 30 .aaload 1 31 := ⟨by decide +kernel, rfl⟩
theorem d_Trip_drive_31 : Dc b_Trip_drive 31 (.iload 6) 2 33 := ⟨by decide +kernel, rfl⟩
theorem d_Trip_drive_33 : Dc b_Trip_drive 33 .iaload 1 34 := ⟨by decide +kernel, rfl⟩
theorem d_Trip_drive_34 : Dc b_Trip_drive 34 .aaload 1 35 := ⟨by decide +kernel, rfl⟩
theorem d_Trip_drive_35 : Dc b_Trip_drive 35 (.astore 7) 2 37 := ⟨by decide +kernel, rfl⟩
theorem d_Trip_drive_37 : Dc b_Trip_drive 37 (.iload 5) 2 39 := ⟨by decide +kernel, rfl⟩
theorem d_Trip_drive_39 : Dc b_Trip_drive 39 (.aload 7) 2 41 := ⟨by decide +kernel, rfl⟩
theorem d_Trip_drive_41 : Dc b_Trip_drive 41 (.getfield 30) 3 44 := ⟨by decide +kernel, rfl⟩
theorem d_Trip_drive_44 : Dc b_Trip_drive 44 (.iload 4) 2 46 := ⟨by decide +kernel, rfl⟩
theorem d_Trip_drive_46 : Dc b_Trip_drive 46 .isub 1 47 := ⟨by decide +kernel, rfl⟩
theorem d_Trip_drive_47 : Dc b_Trip_drive 47 (.invokestatic 36) 3 50 := ⟨by decide +kernel, rfl⟩
theorem d_Trip_drive_50 : Dc b_Trip_drive 50 .iadd 1 51 := ⟨by decide +kernel, rfl⟩
theorem d_Trip_drive_51 : Dc b_Trip_drive 51 (.iconst 2) 1 52 := ⟨by decide +kernel, rfl⟩
theorem d_Trip_drive_52 : Dc b_Trip_drive 52 .iadd 1 53 := ⟨by decide +kernel, rfl⟩
theorem d_Trip_drive_53 : Dc b_Trip_drive 53 (.istore 8) 2 55 := ⟨by decide +kernel, rfl⟩
theorem d_Trip_drive_55 : Dc b_Trip_drive 55 (.iload 8) 2 57 := ⟨by decide +kernel, rfl⟩
theorem d_Trip_drive_57 : Dc b_Trip_drive 57 (.aload 7) 2 59 := ⟨by decide +kernel, rfl⟩
theorem d_Trip_drive_59 : Dc b_Trip_drive 59 (.getfield 30) 3 62 := ⟨by decide +kernel, rfl⟩
theorem d_Trip_drive_62 : Dc b_Trip_drive 62 .iadd 1 63 := ⟨by decide +kernel, rfl⟩
theorem d_Trip_drive_63 : Dc b_Trip_drive 63 (.aload_n 1) 1 64 := ⟨by decide +kernel, rfl⟩
theorem d_Trip_drive_64 : Dc b_Trip_drive 64 (.getfield 42) 3 67 := ⟨by decide +kernel, rfl⟩
theorem d_Trip_drive_67 : Dj b_Trip_drive 67 (.if_icmp .le) 73 70 := ⟨6, by decide +kernel, by decide, rfl⟩
theorem d_Trip_drive_70 : Dj b_Trip_drive 70 .goto 97 73 := ⟨27, by decide +kernel, by decide, rfl⟩
theorem d_Trip_drive_73 : Dc b_Trip_drive 73 (.iload 8) 2 75 := ⟨by decide +kernel, rfl⟩
theorem d_Trip_drive_75 : Dc b_Trip_drive 75 (.istore 5) 2 77 := ⟨by decide +kernel, rfl⟩
theorem d_Trip_drive_77 : Dc b_Trip_drive 77 (.aload 7) 2 79 := ⟨by decide +kernel, rfl⟩
theorem d_Trip_drive_79 : Dc b_Trip_drive 79 (.getfield 30) 3 82 := ⟨by decide +kernel, rfl⟩
theorem d_Trip_drive_82 : Dc b_Trip_drive 82 (.istore 4) 2 84 := ⟨by decide +kernel, rfl⟩
theorem d_Trip_drive_84 : Dc b_Trip_drive 84 (.aload_n 0) 1 85 := ⟨by decide +kernel, rfl⟩
theorem d_Trip_drive_85 : Dc b_Trip_drive 85 (.aload 7) 2 87 := ⟨by decide +kernel, rfl⟩
theorem d_Trip_drive_87 : Dc b_Trip_drive 87 (.aload_n 1) 1 88 := ⟨by decide +kernel, rfl⟩
theorem d_Trip_drive_88 : Dc b_Trip_drive 88 (.invokevirtual 45) 3 91 := ⟨by decide +kernel, rfl⟩
theorem d_Trip_drive_91 : Dc b_Trip_drive 91 (.iinc 6 1) 3 94 := ⟨by decide +kernel, rfl⟩
theorem d_Trip_drive_94 : Dj b_Trip_drive 94 .goto 13 97 := ⟨-81, by decide +kernel, by decide, rfl⟩
theorem d_Trip_drive_97 : Dc b_Trip_drive 97 (.aload_n 0) 1 98 := ⟨by decide +kernel, rfl⟩
theorem d_Trip_drive_98 : Dc b_Trip_drive 98 (.iload 5) 2 100 := ⟨by decide +kernel, rfl⟩
theorem d_Trip_drive_100 : Dc b_Trip_drive 100 (.iload 4) 2 102 := ⟨by decide +kernel, rfl⟩
theorem d_Trip_drive_102 : Dc b_Trip_drive 102 .iadd 1 103 := ⟨by decide +kernel, rfl⟩
theorem d_Trip_drive_103 : Dc b_Trip_drive 103 (.putfield 49) 3 106 := ⟨by decide +kernel, rfl⟩
theorem d_Trip_drive_106 : Dc b_Trip_drive 106 .return_ 1 107 := ⟨by decide +kernel, rfl⟩
abbrev b_Trip_empty : ByteArray := prog_12_method_4_code
def y_Trip_empty : MethodName := ⟨"BinWard$Trip", "empty", "(LBinWard$Street;LBinWard$Lorry;)V"⟩
theorem d_Trip_empty_0 : Dc b_Trip_empty 0 (.iconst 0) 1 1 := ⟨by decide +kernel, rfl⟩
theorem d_Trip_empty_1 : Dc b_Trip_empty 1 (.istore_n 3) 1 2 := ⟨by decide +kernel, rfl⟩
theorem d_Trip_empty_2 : Dc b_Trip_empty 2 (.iconst 0) 1 3 := ⟨by decide +kernel, rfl⟩
theorem d_Trip_empty_3 : Dc b_Trip_empty 3 (.istore 4) 2 5 := ⟨by decide +kernel, rfl⟩
theorem d_Trip_empty_5 : Dc b_Trip_empty 5 (.iload 4) 2 7 := ⟨by decide +kernel, rfl⟩
theorem d_Trip_empty_7 : Dc b_Trip_empty 7 (.iconst 2) 1 8 := ⟨by decide +kernel, rfl⟩
theorem d_Trip_empty_8 : Dj b_Trip_empty 8 (.if_icmp .ge) 31 11 := ⟨23, by decide +kernel, by decide, rfl⟩
theorem d_Trip_empty_11 : Dc b_Trip_empty 11 (.aload_n 0) 1 12 := ⟨by decide +kernel, rfl⟩
theorem d_Trip_empty_12 : Dc b_Trip_empty 12 (.aload_n 1) 1 13 := ⟨by decide +kernel, rfl⟩
theorem d_Trip_empty_13 : Dc b_Trip_empty 13 (.aload_n 2) 1 14 := ⟨by decide +kernel, rfl⟩
theorem d_Trip_empty_14 : Dc b_Trip_empty 14 (.getfield 61) 3 17 := ⟨by decide +kernel, rfl⟩
theorem d_Trip_empty_17 : Dc b_Trip_empty 17 (.iload 4) 2 19 := ⟨by decide +kernel, rfl⟩
theorem d_Trip_empty_19 : Dc b_Trip_empty 19 .iaload 1 20 := ⟨by decide +kernel, rfl⟩
theorem d_Trip_empty_20 : Dc b_Trip_empty 20 (.iload 4) 2 22 := ⟨by decide +kernel, rfl⟩
theorem d_Trip_empty_22 : Dc b_Trip_empty 22 (.invokevirtual 64) 3 25 := ⟨by decide +kernel, rfl⟩
theorem d_Trip_empty_25 : Dc b_Trip_empty 25 (.iinc 4 1) 3 28 := ⟨by decide +kernel, rfl⟩
theorem d_Trip_empty_28 : Dj b_Trip_empty 28 .goto 5 31 := ⟨-23, by decide +kernel, by decide, rfl⟩
theorem d_Trip_empty_31 : Dc b_Trip_empty 31 (.iconst 0) 1 32 := ⟨by decide +kernel, rfl⟩
theorem d_Trip_empty_32 : Dc b_Trip_empty 32 (.istore 4) 2 34 := ⟨by decide +kernel, rfl⟩
theorem d_Trip_empty_34 : Dc b_Trip_empty 34 (.iload 4) 2 36 := ⟨by decide +kernel, rfl⟩
theorem d_Trip_empty_36 : Dc b_Trip_empty 36 (.iconst 2) 1 37 := ⟨by decide +kernel, rfl⟩
theorem d_Trip_empty_37 : Dj b_Trip_empty 37 (.if_icmp .ge) 60 40 := ⟨23, by decide +kernel, by decide, rfl⟩
theorem d_Trip_empty_40 : Dc b_Trip_empty 40 (.iload_n 3) 1 41 := ⟨by decide +kernel, rfl⟩
theorem d_Trip_empty_41 : Dc b_Trip_empty 41 (.aload_n 1) 1 42 := ⟨by decide +kernel, rfl⟩
theorem d_Trip_empty_42 : Dc b_Trip_empty 42 (.aload_n 2) 1 43 := ⟨by decide +kernel, rfl⟩
theorem d_Trip_empty_43 : Dc b_Trip_empty 43 (.getfield 61) 3 46 := ⟨by decide +kernel, rfl⟩
theorem d_Trip_empty_46 : Dc b_Trip_empty 46 (.iload 4) 2 48 := ⟨by decide +kernel, rfl⟩
theorem d_Trip_empty_48 : Dc b_Trip_empty 48 .iaload 1 49 := ⟨by decide +kernel, rfl⟩
theorem d_Trip_empty_49 : Dc b_Trip_empty 49 (.invokevirtual 68) 3 52 := ⟨by decide +kernel, rfl⟩
theorem d_Trip_empty_52 : Dc b_Trip_empty 52 .iadd 1 53 := ⟨by decide +kernel, rfl⟩
theorem d_Trip_empty_53 : Dc b_Trip_empty 53 (.istore_n 3) 1 54 := ⟨by decide +kernel, rfl⟩
theorem d_Trip_empty_54 : Dc b_Trip_empty 54 (.iinc 4 1) 3 57 := ⟨by decide +kernel, rfl⟩
theorem d_Trip_empty_57 : Dj b_Trip_empty 57 .goto 34 60 := ⟨-23, by decide +kernel, by decide, rfl⟩
theorem d_Trip_empty_60 : Dc b_Trip_empty 60 (.aload_n 0) 1 61 := ⟨by decide +kernel, rfl⟩
theorem d_Trip_empty_61 : Dc b_Trip_empty 61 .dup 1 62 := ⟨by decide +kernel, rfl⟩
theorem d_Trip_empty_62 : Dc b_Trip_empty 62 (.getfield 52) 3 65 := ⟨by decide +kernel, rfl⟩
theorem d_Trip_empty_65 : Dc b_Trip_empty 65 (.iconst 1) 1 66 := ⟨by decide +kernel, rfl⟩
theorem d_Trip_empty_66 : Dc b_Trip_empty 66 .iadd 1 67 := ⟨by decide +kernel, rfl⟩
theorem d_Trip_empty_67 : Dc b_Trip_empty 67 (.putfield 52) 3 70 := ⟨by decide +kernel, rfl⟩
theorem d_Trip_empty_70 : Dc b_Trip_empty 70 (.iload_n 3) 1 71 := ⟨by decide +kernel, rfl⟩
theorem d_Trip_empty_71 : Dj b_Trip_empty 71 (.ifCond .le) 84 74 := ⟨13, by decide +kernel, by decide, rfl⟩
theorem d_Trip_empty_74 : Dc b_Trip_empty 74 (.aload_n 0) 1 75 := ⟨by decide +kernel, rfl⟩
theorem d_Trip_empty_75 : Dc b_Trip_empty 75 .dup 1 76 := ⟨by decide +kernel, rfl⟩
theorem d_Trip_empty_76 : Dc b_Trip_empty 76 (.getfield 55) 3 79 := ⟨by decide +kernel, rfl⟩
theorem d_Trip_empty_79 : Dc b_Trip_empty 79 (.iconst 1) 1 80 := ⟨by decide +kernel, rfl⟩
theorem d_Trip_empty_80 : Dc b_Trip_empty 80 .iadd 1 81 := ⟨by decide +kernel, rfl⟩
theorem d_Trip_empty_81 : Dc b_Trip_empty 81 (.putfield 55) 3 84 := ⟨by decide +kernel, rfl⟩
theorem d_Trip_empty_84 : Dc b_Trip_empty 84 .return_ 1 85 := ⟨by decide +kernel, rfl⟩
abbrev b_Trip_init : ByteArray := prog_12_method_1_code
def y_Trip_init : MethodName := ⟨"BinWard$Trip", "<init>", "()V"⟩
theorem d_Trip_init_0 : Dc b_Trip_init 0 (.aload_n 0) 1 1 := ⟨by decide +kernel, rfl⟩
theorem d_Trip_init_1 : Dc b_Trip_init 1 (.invokespecial 3) 3 4 := ⟨by decide +kernel, rfl⟩
theorem d_Trip_init_4 : Dc b_Trip_init 4 (.aload_n 0) 1 5 := ⟨by decide +kernel, rfl⟩
theorem d_Trip_init_5 : Dc b_Trip_init 5 (.iconst 2) 1 6 := ⟨by decide +kernel, rfl⟩
theorem d_Trip_init_6 : Dc b_Trip_init 6 (.newarray .int) 2 8 := ⟨by decide +kernel, rfl⟩
theorem d_Trip_init_8 : Dc b_Trip_init 8 (.putfield 9) 3 11 := ⟨by decide +kernel, rfl⟩
theorem d_Trip_init_11 : Dc b_Trip_init 11 (.aload_n 0) 1 12 := ⟨by decide +kernel, rfl⟩
theorem d_Trip_init_12 : Dc b_Trip_init 12 (.iconst 2) 1 13 := ⟨by decide +kernel, rfl⟩
theorem d_Trip_init_13 : Dc b_Trip_init 13 (.newarray .int) 2 15 := ⟨by decide +kernel, rfl⟩
theorem d_Trip_init_15 : Dc b_Trip_init 15 (.putfield 15) 3 18 := ⟨by decide +kernel, rfl⟩
theorem d_Trip_init_18 : Dc b_Trip_init 18 .return_ 1 19 := ⟨by decide +kernel, rfl⟩
abbrev b_Trip_load : ByteArray := prog_12_method_5_code
def y_Trip_load : MethodName := ⟨"BinWard$Trip", "load", "(LBinWard$Street;II)V"⟩
theorem d_Trip_load_0 : Dc b_Trip_load 0 (.sipush 150) 3 3 := ⟨by decide +kernel, rfl⟩
theorem d_Trip_load_3 : Dc b_Trip_load 3 (.aload_n 0) 1 4 := ⟨by decide +kernel, rfl⟩
theorem d_Trip_load_4 : Dc b_Trip_load 4 (.getfield 9) 3 7 := ⟨by decide +kernel, rfl⟩
theorem d_Trip_load_7 : Dc b_Trip_load 7 (.iload_n 3) 1 8 := ⟨by decide +kernel, rfl⟩
theorem d_Trip_load_8 : Dc b_Trip_load 8 .iaload 1 9 := ⟨by decide +kernel, rfl⟩
theorem d_Trip_load_9 : Dc b_Trip_load 9 .isub 1 10 := ⟨by decide +kernel, rfl⟩
theorem d_Trip_load_10 : Dc b_Trip_load 10 (.aload_n 0) 1 11 := ⟨by decide +kernel, rfl⟩
theorem d_Trip_load_11 : Dc b_Trip_load 11 (.getfield 15) 3 14 := ⟨by decide +kernel, rfl⟩
theorem d_Trip_load_14 : Dc b_Trip_load 14 (.iload_n 3) 1 15 := ⟨by decide +kernel, rfl⟩
theorem d_Trip_load_15 : Dc b_Trip_load 15 .iaload 1 16 := ⟨by decide +kernel, rfl⟩
theorem d_Trip_load_16 : Dc b_Trip_load 16 .isub 1 17 := ⟨by decide +kernel, rfl⟩
theorem d_Trip_load_17 : Dc b_Trip_load 17 (.istore 4) 2 19 := ⟨by decide +kernel, rfl⟩
theorem d_Trip_load_19 : Dc b_Trip_load 19 (.aload_n 1) 1 20 := ⟨by decide +kernel, rfl⟩
theorem d_Trip_load_20 : Dc b_Trip_load 20 (.getfield 71) 3 23 := ⟨by decide +kernel, rfl⟩
theorem d_Trip_load_23 : Dc b_Trip_load 23 (.iload_n 2) 1 24 := ⟨by decide +kernel, rfl⟩
theorem d_Trip_load_24 : Dc b_Trip_load 24 .iaload 1 25 := ⟨by decide +kernel, rfl⟩
theorem d_Trip_load_25 : Dc b_Trip_load 25 (.iload 4) 2 27 := ⟨by decide +kernel, rfl⟩
theorem d_Trip_load_27 : Dc b_Trip_load 27 (.invokestatic 72) 3 30 := ⟨by decide +kernel, rfl⟩
theorem d_Trip_load_30 : Dc b_Trip_load 30 (.istore 5) 2 32 := ⟨by decide +kernel, rfl⟩
theorem d_Trip_load_32 : Dc b_Trip_load 32 (.aload_n 1) 1 33 := ⟨by decide +kernel, rfl⟩
theorem d_Trip_load_33 : Dc b_Trip_load 33 (.getfield 76) 3 36 := ⟨by decide +kernel, rfl⟩
theorem d_Trip_load_36 : Dc b_Trip_load 36 (.iload_n 2) 1 37 := ⟨by decide +kernel, rfl⟩
theorem d_Trip_load_37 : Dc b_Trip_load 37 .iaload 1 38 := ⟨by decide +kernel, rfl⟩
theorem d_Trip_load_38 : Dc b_Trip_load 38 (.iload 4) 2 40 := ⟨by decide +kernel, rfl⟩
theorem d_Trip_load_40 : Dc b_Trip_load 40 (.iload 5) 2 42 := ⟨by decide +kernel, rfl⟩
theorem d_Trip_load_42 : Dc b_Trip_load 42 .isub 1 43 := ⟨by decide +kernel, rfl⟩
theorem d_Trip_load_43 : Dc b_Trip_load 43 (.invokestatic 72) 3 46 := ⟨by decide +kernel, rfl⟩
theorem d_Trip_load_46 : Dc b_Trip_load 46 (.istore 6) 2 48 := ⟨by decide +kernel, rfl⟩
theorem d_Trip_load_48 : Dc b_Trip_load 48 (.aload_n 1) 1 49 := ⟨by decide +kernel, rfl⟩
theorem d_Trip_load_49 : Dc b_Trip_load 49 (.getfield 71) 3 52 := ⟨by decide +kernel, rfl⟩
theorem d_Trip_load_52 : Dc b_Trip_load 52 (.iload_n 2) 1 53 := ⟨by decide +kernel, rfl⟩
theorem d_Trip_load_53 : Dc b_Trip_load 53 .dup2 1 54 := ⟨by decide +kernel, rfl⟩
theorem d_Trip_load_54 : Dc b_Trip_load 54 .iaload 1 55 := ⟨by decide +kernel, rfl⟩
theorem d_Trip_load_55 : Dc b_Trip_load 55 (.iload 5) 2 57 := ⟨by decide +kernel, rfl⟩
theorem d_Trip_load_57 : Dc b_Trip_load 57 .isub 1 58 := ⟨by decide +kernel, rfl⟩
theorem d_Trip_load_58 : Dc b_Trip_load 58 .iastore 1 59 := ⟨by decide +kernel, rfl⟩
theorem d_Trip_load_59 : Dc b_Trip_load 59 (.aload_n 1) 1 60 := ⟨by decide +kernel, rfl⟩
theorem d_Trip_load_60 : Dc b_Trip_load 60 (.getfield 76) 3 63 := ⟨by decide +kernel, rfl⟩
theorem d_Trip_load_63 : Dc b_Trip_load 63 (.iload_n 2) 1 64 := ⟨by decide +kernel, rfl⟩
theorem d_Trip_load_64 : Dc b_Trip_load 64 .dup2 1 65 := ⟨by decide +kernel, rfl⟩
theorem d_Trip_load_65 : Dc b_Trip_load 65 .iaload 1 66 := ⟨by decide +kernel, rfl⟩
theorem d_Trip_load_66 : Dc b_Trip_load 66 (.iload 6) 2 68 := ⟨by decide +kernel, rfl⟩
theorem d_Trip_load_68 : Dc b_Trip_load 68 .isub 1 69 := ⟨by decide +kernel, rfl⟩
theorem d_Trip_load_69 : Dc b_Trip_load 69 .iastore 1 70 := ⟨by decide +kernel, rfl⟩
theorem d_Trip_load_70 : Dc b_Trip_load 70 (.aload_n 1) 1 71 := ⟨by decide +kernel, rfl⟩
theorem d_Trip_load_71 : Dc b_Trip_load 71 (.getfield 77) 3 74 := ⟨by decide +kernel, rfl⟩
theorem d_Trip_load_74 : Dc b_Trip_load 74 (.iload_n 2) 1 75 := ⟨by decide +kernel, rfl⟩
theorem d_Trip_load_75 : Dc b_Trip_load 75 .dup2 1 76 := ⟨by decide +kernel, rfl⟩
theorem d_Trip_load_76 : Dc b_Trip_load 76 .iaload 1 77 := ⟨by decide +kernel, rfl⟩
theorem d_Trip_load_77 : Dc b_Trip_load 77 (.iload 5) 2 79 := ⟨by decide +kernel, rfl⟩
theorem d_Trip_load_79 : Dc b_Trip_load 79 (.iload 6) 2 81 := ⟨by decide +kernel, rfl⟩
theorem d_Trip_load_81 : Dc b_Trip_load 81 .iadd 1 82 := ⟨by decide +kernel, rfl⟩
theorem d_Trip_load_82 : Dc b_Trip_load 82 .iadd 1 83 := ⟨by decide +kernel, rfl⟩
theorem d_Trip_load_83 : Dc b_Trip_load 83 .iastore 1 84 := ⟨by decide +kernel, rfl⟩
theorem d_Trip_load_84 : Dc b_Trip_load 84 (.aload_n 0) 1 85 := ⟨by decide +kernel, rfl⟩
theorem d_Trip_load_85 : Dc b_Trip_load 85 (.getfield 9) 3 88 := ⟨by decide +kernel, rfl⟩
theorem d_Trip_load_88 : Dc b_Trip_load 88 (.iload_n 3) 1 89 := ⟨by decide +kernel, rfl⟩
theorem d_Trip_load_89 : Dc b_Trip_load 89 .dup2 1 90 := ⟨by decide +kernel, rfl⟩
theorem d_Trip_load_90 : Dc b_Trip_load 90 .iaload 1 91 := ⟨by decide +kernel, rfl⟩
theorem d_Trip_load_91 : Dc b_Trip_load 91 (.iload 5) 2 93 := ⟨by decide +kernel, rfl⟩
theorem d_Trip_load_93 : Dc b_Trip_load 93 .iadd 1 94 := ⟨by decide +kernel, rfl⟩
theorem d_Trip_load_94 : Dc b_Trip_load 94 .iastore 1 95 := ⟨by decide +kernel, rfl⟩
theorem d_Trip_load_95 : Dc b_Trip_load 95 (.aload_n 0) 1 96 := ⟨by decide +kernel, rfl⟩
theorem d_Trip_load_96 : Dc b_Trip_load 96 (.getfield 15) 3 99 := ⟨by decide +kernel, rfl⟩
theorem d_Trip_load_99 : Dc b_Trip_load 99 (.iload_n 3) 1 100 := ⟨by decide +kernel, rfl⟩
theorem d_Trip_load_100 : Dc b_Trip_load 100 .dup2 1 101 := ⟨by decide +kernel, rfl⟩
theorem d_Trip_load_101 : Dc b_Trip_load 101 .iaload 1 102 := ⟨by decide +kernel, rfl⟩
theorem d_Trip_load_102 : Dc b_Trip_load 102 (.iload 6) 2 104 := ⟨by decide +kernel, rfl⟩
theorem d_Trip_load_104 : Dc b_Trip_load 104 .iadd 1 105 := ⟨by decide +kernel, rfl⟩
theorem d_Trip_load_105 : Dc b_Trip_load 105 .iastore 1 106 := ⟨by decide +kernel, rfl⟩
theorem d_Trip_load_106 : Dc b_Trip_load 106 (.aload_n 0) 1 107 := ⟨by decide +kernel, rfl⟩
theorem d_Trip_load_107 : Dc b_Trip_load 107 .dup 1 108 := ⟨by decide +kernel, rfl⟩
theorem d_Trip_load_108 : Dc b_Trip_load 108 (.getfield 58) 3 111 := ⟨by decide +kernel, rfl⟩
theorem d_Trip_load_111 : Dc b_Trip_load 111 (.iload 5) 2 113 := ⟨by decide +kernel, rfl⟩
theorem d_Trip_load_113 : Dc b_Trip_load 113 (.iload 6) 2 115 := ⟨by decide +kernel, rfl⟩
theorem d_Trip_load_115 : Dc b_Trip_load 115 .iadd 1 116 := ⟨by decide +kernel, rfl⟩
theorem d_Trip_load_116 : Dc b_Trip_load 116 .iadd 1 117 := ⟨by decide +kernel, rfl⟩
theorem d_Trip_load_117 : Dc b_Trip_load 117 (.putfield 58) 3 120 := ⟨by decide +kernel, rfl⟩
theorem d_Trip_load_120 : Dc b_Trip_load 120 .return_ 1 121 := ⟨by decide +kernel, rfl⟩
abbrev b_Ward_baleAt : ByteArray := prog_1_method_41_code
def y_Ward_baleAt : MethodName := ⟨"BinWard", "baleAt", "(I)LBinWard$Bale;"⟩
theorem d_Ward_baleAt_0 : Dc b_Ward_baleAt 0 (.iload_n 1) 1 1 := ⟨by decide +kernel, rfl⟩
theorem d_Ward_baleAt_1 : Dc b_Ward_baleAt 1 (.aload_n 0) 1 2 := ⟨by decide +kernel, rfl⟩
theorem d_Ward_baleAt_2 : Dc b_Ward_baleAt 2 (.getfield 55) 3 5 := ⟨by decide +kernel, rfl⟩
theorem d_Ward_baleAt_5 : Dc b_Ward_baleAt 5 (.getfield 238) 3 8 := ⟨by decide +kernel, rfl⟩
theorem d_Ward_baleAt_8 : Dc b_Ward_baleAt 8 (.invokestatic 107) 3 11 := ⟨by decide +kernel, rfl⟩
theorem d_Ward_baleAt_11 : Dc b_Ward_baleAt 11 (.aload_n 0) 1 12 := ⟨by decide +kernel, rfl⟩
theorem d_Ward_baleAt_12 : Dc b_Ward_baleAt 12 (.getfield 55) 3 15 := ⟨by decide +kernel, rfl⟩
theorem d_Ward_baleAt_15 : Dc b_Ward_baleAt 15 (.getfield 416) 3 18 := ⟨by decide +kernel, rfl⟩
theorem d_Ward_baleAt_18 : Dc b_Ward_baleAt 18 (.iload_n 1) 1 19 := ⟨by decide +kernel, rfl⟩
theorem d_Ward_baleAt_19 : Dc b_Ward_baleAt 19 .aaload 1 20 := ⟨by decide +kernel, rfl⟩
theorem d_Ward_baleAt_20 : Dc b_Ward_baleAt 20 .areturn 1 21 := ⟨by decide +kernel, rfl⟩
abbrev b_Ward_bestFetch : ByteArray := prog_1_method_23_code
def y_Ward_bestFetch : MethodName := ⟨"BinWard", "bestFetch", "(I)I"⟩
theorem d_Ward_bestFetch_0 : Dc b_Ward_bestFetch 0 (.aload_n 0) 1 1 := ⟨by decide +kernel, rfl⟩
theorem d_Ward_bestFetch_1 : Dc b_Ward_bestFetch 1 (.iload_n 1) 1 2 := ⟨by decide +kernel, rfl⟩
theorem d_Ward_bestFetch_2 : Dc b_Ward_bestFetch 2 (.invokevirtual 126) 3 5 := ⟨by decide +kernel, rfl⟩
theorem d_Ward_bestFetch_5 : Dc b_Ward_bestFetch 5 (.astore_n 2) 1 6 := ⟨by decide +kernel, rfl⟩
theorem d_Ward_bestFetch_6 : Dc b_Ward_bestFetch 6 (.aload_n 0) 1 7 := ⟨by decide +kernel, rfl⟩
theorem d_Ward_bestFetch_7 : Dc b_Ward_bestFetch 7 (.getfield 34) 3 10 := ⟨by decide +kernel, rfl⟩
theorem d_Ward_bestFetch_10 : Dc b_Ward_bestFetch 10 (.aload_n 2) 1 11 := ⟨by decide +kernel, rfl⟩
theorem d_Ward_bestFetch_11 : Dc b_Ward_bestFetch 11 (.aload_n 0) 1 12 := ⟨by decide +kernel, rfl⟩
theorem d_Ward_bestFetch_12 : Dc b_Ward_bestFetch 12 (.getfield 11) 3 15 := ⟨by decide +kernel, rfl⟩
theorem d_Ward_bestFetch_15 : Dc b_Ward_bestFetch 15 (.aload_n 0) 1 16 := ⟨by decide +kernel, rfl⟩
theorem d_Ward_bestFetch_16 : Dc b_Ward_bestFetch 16 (.getfield 86) 3 19 := ⟨by decide +kernel, rfl⟩
theorem d_Ward_bestFetch_19 : Dc b_Ward_bestFetch 19 (.invokevirtual 292) 3 22 := ⟨by decide +kernel, rfl⟩
theorem d_Ward_bestFetch_22 : Dc b_Ward_bestFetch 22 (.aload_n 0) 1 23 := ⟨by decide +kernel, rfl⟩
theorem d_Ward_bestFetch_23 : Dc b_Ward_bestFetch 23 (.getfield 34) 3 26 := ⟨by decide +kernel, rfl⟩
theorem d_Ward_bestFetch_26 : Dc b_Ward_bestFetch 26 (.getfield 296) 3 29 := ⟨by decide +kernel, rfl⟩
theorem d_Ward_bestFetch_29 : Dc b_Ward_bestFetch 29 .ireturn 1 30 := ⟨by decide +kernel, rfl⟩
abbrev b_Ward_bestRound : ByteArray := prog_1_method_24_code
def y_Ward_bestRound : MethodName := ⟨"BinWard", "bestRound", "(I)I"⟩
theorem d_Ward_bestRound_0 : Dc b_Ward_bestRound 0 (.aload_n 0) 1 1 := ⟨by decide +kernel, rfl⟩
theorem d_Ward_bestRound_1 : Dc b_Ward_bestRound 1 (.iload_n 1) 1 2 := ⟨by decide +kernel, rfl⟩
theorem d_Ward_bestRound_2 : Dc b_Ward_bestRound 2 (.invokevirtual 126) 3 5 := ⟨by decide +kernel, rfl⟩
theorem d_Ward_bestRound_5 : Dc b_Ward_bestRound 5 (.astore_n 2) 1 6 := ⟨by decide +kernel, rfl⟩
theorem d_Ward_bestRound_6 : Dc b_Ward_bestRound 6 (.aload_n 0) 1 7 := ⟨by decide +kernel, rfl⟩
theorem d_Ward_bestRound_7 : Dc b_Ward_bestRound 7 (.getfield 34) 3 10 := ⟨by decide +kernel, rfl⟩
theorem d_Ward_bestRound_10 : Dc b_Ward_bestRound 10 (.aload_n 2) 1 11 := ⟨by decide +kernel, rfl⟩
theorem d_Ward_bestRound_11 : Dc b_Ward_bestRound 11 (.aload_n 0) 1 12 := ⟨by decide +kernel, rfl⟩
theorem d_Ward_bestRound_12 : Dc b_Ward_bestRound 12 (.getfield 11) 3 15 := ⟨by decide +kernel, rfl⟩
theorem d_Ward_bestRound_15 : Dc b_Ward_bestRound 15 (.aload_n 0) 1 16 := ⟨by decide +kernel, rfl⟩
theorem d_Ward_bestRound_16 : Dc b_Ward_bestRound 16 (.getfield 86) 3 19 := ⟨by decide +kernel, rfl⟩
theorem d_Ward_bestRound_19 : Dc b_Ward_bestRound 19 (.invokevirtual 292) 3 22 := ⟨by decide +kernel, rfl⟩
theorem d_Ward_bestRound_22 : Dc b_Ward_bestRound 22 (.aload_n 0) 1 23 := ⟨by decide +kernel, rfl⟩
theorem d_Ward_bestRound_23 : Dc b_Ward_bestRound 23 (.getfield 34) 3 26 := ⟨by decide +kernel, rfl⟩
theorem d_Ward_bestRound_26 : Dc b_Ward_bestRound 26 (.getfield 299) 3 29 := ⟨by decide +kernel, rfl⟩
theorem d_Ward_bestRound_29 : Dc b_Ward_bestRound 29 .ireturn 1 30 := ⟨by decide +kernel, rfl⟩
abbrev b_Ward_bringIn : ByteArray := prog_1_method_34_code
def y_Ward_bringIn : MethodName := ⟨"BinWard", "bringIn", "(ILBinWard$Trip;I)V"⟩
theorem d_Ward_bringIn_0 : Dc b_Ward_bringIn 0 (.aload_n 2) 1 1 := ⟨by decide +kernel, rfl⟩
theorem d_Ward_bringIn_1 : Dc b_Ward_bringIn 1 (.getfield 396) 3 4 := ⟨by decide +kernel, rfl⟩
theorem d_Ward_bringIn_4 : Dc b_Ward_bringIn 4 (.iload_n 3) 1 5 := ⟨by decide +kernel, rfl⟩
theorem d_Ward_bringIn_5 : Dc b_Ward_bringIn 5 .iaload 1 6 := ⟨by decide +kernel, rfl⟩
theorem d_Ward_bringIn_6 : Dc b_Ward_bringIn 6 (.istore 4) 2 8 := ⟨by decide +kernel, rfl⟩
theorem d_Ward_bringIn_8 : Dc b_Ward_bringIn 8 (.aload_n 2) 1 9 := ⟨by decide +kernel, rfl⟩
theorem d_Ward_bringIn_9 : Dc b_Ward_bringIn 9 (.getfield 397) 3 12 := ⟨by decide +kernel, rfl⟩
theorem d_Ward_bringIn_12 : Dc b_Ward_bringIn 12 (.iload_n 3) 1 13 := ⟨by decide +kernel, rfl⟩
theorem d_Ward_bringIn_13 : Dc b_Ward_bringIn 13 .iaload 1 14 := ⟨by decide +kernel, rfl⟩
theorem d_Ward_bringIn_14 : Dc b_Ward_bringIn 14 (.istore 5) 2 16 := ⟨by decide +kernel, rfl⟩
theorem d_Ward_bringIn_16 : Dc b_Ward_bringIn 16 (.iload 4) 2 18 := ⟨by decide +kernel, rfl⟩
theorem d_Ward_bringIn_18 : Dc b_Ward_bringIn 18 (.iload 5) 2 20 := ⟨by decide +kernel, rfl⟩
theorem d_Ward_bringIn_20 : Dc b_Ward_bringIn 20 .iadd 1 21 := ⟨by decide +kernel, rfl⟩
theorem d_Ward_bringIn_21 : Dj b_Ward_bringIn 21 (.ifCond .ne) 25 24 := ⟨4, by decide +kernel, by decide, rfl⟩
theorem d_Ward_bringIn_24 : Dc b_Ward_bringIn 24 .return_ 1 25 := ⟨by decide +kernel, rfl⟩
theorem d_Ward_bringIn_25 : Dc b_Ward_bringIn 25 (.iload_n 1) 1 26 := ⟨by decide +kernel, rfl⟩
theorem d_Ward_bringIn_26 : Dj b_Ward_bringIn 26 (.ifCond .ne) 48 29 := ⟨22, by decide +kernel, by decide, rfl⟩
theorem d_Ward_bringIn_29 : Dc b_Ward_bringIn 29 (.aload_n 0) 1 30 := ⟨by decide +kernel, rfl⟩
theorem d_Ward_bringIn_30 : Dc b_Ward_bringIn 30 (.getfield 62) 3 33 := ⟨by decide +kernel, rfl⟩
theorem d_Ward_bringIn_33 : Dc b_Ward_bringIn 33 (.iload 4) 2 35 := ⟨by decide +kernel, rfl⟩
theorem d_Ward_bringIn_35 : Dc b_Ward_bringIn 35 (.iload 5) 2 37 := ⟨by decide +kernel, rfl⟩
theorem d_Ward_bringIn_37 : Dc b_Ward_bringIn 37 .iadd 1 38 := ⟨by decide +kernel, rfl⟩
theorem d_Ward_bringIn_38 : Dc b_Ward_bringIn 38 (.aload_n 0) 1 39 := ⟨by decide +kernel, rfl⟩
theorem d_Ward_bringIn_39 : Dc b_Ward_bringIn 39 (.getfield 76) 3 42 := ⟨by decide +kernel, rfl⟩
theorem d_Ward_bringIn_42 : Dc b_Ward_bringIn 42 (.invokevirtual 398) 3 45 := ⟨by decide +kernel, rfl⟩
theorem d_Ward_bringIn_45 : Dj b_Ward_bringIn 45 .goto 108 48 := ⟨63, by decide +kernel, by decide, rfl⟩
theorem d_Ward_bringIn_48 : Dc b_Ward_bringIn 48 (.iload_n 1) 1 49 := ⟨by decide +kernel, rfl⟩
theorem d_Ward_bringIn_49 : Dc b_Ward_bringIn 49 (.iconst 1) 1 50 := ⟨by decide +kernel, rfl⟩
theorem d_Ward_bringIn_50 : Dj b_Ward_bringIn 50 (.if_icmp .ne) 97 53 := ⟨47, by decide +kernel, by decide, rfl⟩
theorem d_Ward_bringIn_53 : Dc b_Ward_bringIn 53 (.aload_n 0) 1 54 := ⟨by decide +kernel, rfl⟩
theorem d_Ward_bringIn_54 : Dc b_Ward_bringIn 54 (.getfield 48) 3 57 := ⟨by decide +kernel, rfl⟩
theorem d_Ward_bringIn_57 : Dc b_Ward_bringIn 57 (.iload 4) 2 59 := ⟨by decide +kernel, rfl⟩
theorem d_Ward_bringIn_59 : Dc b_Ward_bringIn 59 (.iload 5) 2 61 := ⟨by decide +kernel, rfl⟩
theorem d_Ward_bringIn_61 : Dc b_Ward_bringIn 61 (.aload_n 0) 1 62 := ⟨by decide +kernel, rfl⟩
theorem d_Ward_bringIn_62 : Dc b_Ward_bringIn 62 (.getfield 55) 3 65 := ⟨by decide +kernel, rfl⟩
theorem d_Ward_bringIn_65 : Dc b_Ward_bringIn 65 (.invokevirtual 402) 3 68 := ⟨by decide +kernel, rfl⟩
theorem d_Ward_bringIn_68 : Dc b_Ward_bringIn 68 (.istore 6) 2 70 := ⟨by decide +kernel, rfl⟩
theorem d_Ward_bringIn_70 : Dc b_Ward_bringIn 70 (.aload_n 0) 1 71 := ⟨by decide +kernel, rfl⟩
theorem d_Ward_bringIn_71 : Dc b_Ward_bringIn 71 (.getfield 62) 3 74 := ⟨by decide +kernel, rfl⟩
theorem d_Ward_bringIn_74 : Dc b_Ward_bringIn 74 (.iload 6) 2 76 := ⟨by decide +kernel, rfl⟩
theorem d_Ward_bringIn_76 : Dc b_Ward_bringIn 76 (.aload_n 0) 1 77 := ⟨by decide +kernel, rfl⟩
theorem d_Ward_bringIn_77 : Dc b_Ward_bringIn 77 (.getfield 76) 3 80 := ⟨by decide +kernel, rfl⟩
theorem d_Ward_bringIn_80 : Dc b_Ward_bringIn 80 (.invokevirtual 398) 3 83 := ⟨by decide +kernel, rfl⟩
theorem d_Ward_bringIn_83 : Dc b_Ward_bringIn 83 (.aload_n 0) 1 84 := ⟨by decide +kernel, rfl⟩
theorem d_Ward_bringIn_84 : Dc b_Ward_bringIn 84 (.getfield 55) 3 87 := ⟨by decide +kernel, rfl⟩
theorem d_Ward_bringIn_87 : Dc b_Ward_bringIn 87 (.aload_n 0) 1 88 := ⟨by decide +kernel, rfl⟩
theorem d_Ward_bringIn_88 : Dc b_Ward_bringIn 88 (.getfield 187) 3 91 := ⟨by decide +kernel, rfl⟩
theorem d_Ward_bringIn_91 : Dc b_Ward_bringIn 91 (.invokevirtual 406) 3 94 := ⟨by decide +kernel, rfl⟩
theorem d_Ward_bringIn_94 : Dj b_Ward_bringIn 94 .goto 108 97 := ⟨14, by decide +kernel, by decide, rfl⟩
theorem d_Ward_bringIn_97 : Dc b_Ward_bringIn 97 (.aload_n 0) 1 98 := ⟨by decide +kernel, rfl⟩
theorem d_Ward_bringIn_98 : Dc b_Ward_bringIn 98 (.getfield 69) 3 101 := ⟨by decide +kernel, rfl⟩
theorem d_Ward_bringIn_101 : Dc b_Ward_bringIn 101 (.iload 4) 2 103 := ⟨by decide +kernel, rfl⟩
theorem d_Ward_bringIn_103 : Dc b_Ward_bringIn 103 (.iload 5) 2 105 := ⟨by decide +kernel, rfl⟩
theorem d_Ward_bringIn_105 : Dc b_Ward_bringIn 105 (.invokevirtual 409) 3 108 := ⟨by decide +kernel, rfl⟩
theorem d_Ward_bringIn_108 : Dc b_Ward_bringIn 108 .return_ 1 109 := ⟨by decide +kernel, rfl⟩
abbrev b_Ward_checkIndex : ByteArray := prog_1_method_42_code
def y_Ward_checkIndex : MethodName := ⟨"BinWard", "checkIndex", "(II)V"⟩
theorem d_Ward_checkIndex_0 : Dc b_Ward_checkIndex 0 (.iload_n 0) 1 1 := ⟨by decide +kernel, rfl⟩
theorem d_Ward_checkIndex_1 : Dj b_Ward_checkIndex 1 (.ifCond .lt) 9 4 := ⟨8, by decide +kernel, by decide, rfl⟩
theorem d_Ward_checkIndex_4 : Dc b_Ward_checkIndex 4 (.iload_n 0) 1 5 := ⟨by decide +kernel, rfl⟩
theorem d_Ward_checkIndex_5 : Dc b_Ward_checkIndex 5 (.iload_n 1) 1 6 := ⟨by decide +kernel, rfl⟩
theorem d_Ward_checkIndex_6 : Dj b_Ward_checkIndex 6 (.if_icmp .lt) 20 9 := ⟨14, by decide +kernel, by decide, rfl⟩
theorem d_Ward_checkIndex_9 : Dc b_Ward_checkIndex 9 (.new 420) 3 12 := ⟨by decide +kernel, rfl⟩
theorem d_Ward_checkIndex_12 : Dc b_Ward_checkIndex 12 .dup 1 13 := ⟨by decide +kernel, rfl⟩
theorem d_Ward_checkIndex_13 : Dc b_Ward_checkIndex 13 (.ldc_w 422) 3 16 := ⟨by decide +kernel, rfl⟩
theorem d_Ward_checkIndex_16 : Dc b_Ward_checkIndex 16 (.invokespecial 424) 3 19 := ⟨by decide +kernel, rfl⟩
theorem d_Ward_checkIndex_19 : Dc b_Ward_checkIndex 19 .athrow 1 20 := ⟨by decide +kernel, rfl⟩
theorem d_Ward_checkIndex_20 : Dc b_Ward_checkIndex 20 .return_ 1 21 := ⟨by decide +kernel, rfl⟩
abbrev b_Ward_checkValue : ByteArray := prog_1_method_43_code
def y_Ward_checkValue : MethodName := ⟨"BinWard", "checkValue", "(III)V"⟩
theorem d_Ward_checkValue_0 : Dc b_Ward_checkValue 0 (.iload_n 0) 1 1 := ⟨by decide +kernel, rfl⟩
theorem d_Ward_checkValue_1 : Dc b_Ward_checkValue 1 (.iload_n 1) 1 2 := ⟨by decide +kernel, rfl⟩
theorem d_Ward_checkValue_2 : Dj b_Ward_checkValue 2 (.if_icmp .lt) 10 5 := ⟨8, by decide +kernel, by decide, rfl⟩
theorem d_Ward_checkValue_5 : Dc b_Ward_checkValue 5 (.iload_n 0) 1 6 := ⟨by decide +kernel, rfl⟩
theorem d_Ward_checkValue_6 : Dc b_Ward_checkValue 6 (.iload_n 2) 1 7 := ⟨by decide +kernel, rfl⟩
theorem d_Ward_checkValue_7 : Dj b_Ward_checkValue 7 (.if_icmp .le) 21 10 := ⟨14, by decide +kernel, by decide, rfl⟩
theorem d_Ward_checkValue_10 : Dc b_Ward_checkValue 10 (.new 425) 3 13 := ⟨by decide +kernel, rfl⟩
theorem d_Ward_checkValue_13 : Dc b_Ward_checkValue 13 .dup 1 14 := ⟨by decide +kernel, rfl⟩
theorem d_Ward_checkValue_14 : Dc b_Ward_checkValue 14 (.ldc_w 427) 3 17 := ⟨by decide +kernel, rfl⟩
theorem d_Ward_checkValue_17 : Dc b_Ward_checkValue 17 (.invokespecial 429) 3 20 := ⟨by decide +kernel, rfl⟩
theorem d_Ward_checkValue_20 : Dc b_Ward_checkValue 20 .athrow 1 21 := ⟨by decide +kernel, rfl⟩
theorem d_Ward_checkValue_21 : Dc b_Ward_checkValue 21 .return_ 1 22 := ⟨by decide +kernel, rfl⟩
abbrev b_Ward_clear : ByteArray := prog_1_method_7_code
def y_Ward_clear : MethodName := ⟨"BinWard", "clear", "(II)I"⟩
theorem d_Ward_clear_0 : Dc b_Ward_clear 0 (.aload_n 0) 1 1 := ⟨by decide +kernel, rfl⟩
theorem d_Ward_clear_1 : Dc b_Ward_clear 1 (.iload_n 1) 1 2 := ⟨by decide +kernel, rfl⟩
theorem d_Ward_clear_2 : Dc b_Ward_clear 2 (.invokevirtual 126) 3 5 := ⟨by decide +kernel, rfl⟩
theorem d_Ward_clear_5 : Dc b_Ward_clear 5 (.astore_n 3) 1 6 := ⟨by decide +kernel, rfl⟩
theorem d_Ward_clear_6 : Dc b_Ward_clear 6 (.iload_n 2) 1 7 := ⟨by decide +kernel, rfl⟩
theorem d_Ward_clear_7 : Dc b_Ward_clear 7 (.bipush 7) 2 9 := ⟨by decide +kernel, rfl⟩
theorem d_Ward_clear_9 : Dc b_Ward_clear 9 (.invokestatic 107) 3 12 := ⟨by decide +kernel, rfl⟩
theorem d_Ward_clear_12 : Dc b_Ward_clear 12 (.aload_n 3) 1 13 := ⟨by decide +kernel, rfl⟩
theorem d_Ward_clear_13 : Dc b_Ward_clear 13 (.getfield 139) 3 16 := ⟨by decide +kernel, rfl⟩
theorem d_Ward_clear_16 : Dc b_Ward_clear 16 (.iload_n 2) 1 17 := ⟨by decide +kernel, rfl⟩
theorem d_Ward_clear_17 : Dc b_Ward_clear 17 .iaload 1 18 := ⟨by decide +kernel, rfl⟩
theorem d_Ward_clear_18 : Dc b_Ward_clear 18 (.istore 4) 2 20 := ⟨by decide +kernel, rfl⟩
theorem d_Ward_clear_20 : Dc b_Ward_clear 20 (.aload_n 3) 1 21 := ⟨by decide +kernel, rfl⟩
theorem d_Ward_clear_21 : Dc b_Ward_clear 21 (.getfield 139) 3 24 := ⟨by decide +kernel, rfl⟩
theorem d_Ward_clear_24 : Dc b_Ward_clear 24 (.iload_n 2) 1 25 := ⟨by decide +kernel, rfl⟩
theorem d_Ward_clear_25 : Dc b_Ward_clear 25 (.iconst 0) 1 26 := ⟨by decide +kernel, rfl⟩
theorem d_Ward_clear_26 : Dc b_Ward_clear 26 .iastore 1 27 := ⟨by decide +kernel, rfl⟩
theorem d_Ward_clear_27 : Dc b_Ward_clear 27 (.iload 4) 2 29 := ⟨by decide +kernel, rfl⟩
theorem d_Ward_clear_29 : Dc b_Ward_clear 29 .ireturn 1 30 := ⟨by decide +kernel, rfl⟩
abbrev b_Ward_countedAsUsed : ByteArray := prog_1_method_37_code
def y_Ward_countedAsUsed : MethodName := ⟨"BinWard", "countedAsUsed", "(I)I"⟩
theorem d_Ward_countedAsUsed_0 : Dc b_Ward_countedAsUsed 0 (.iload_n 1) 1 1 := ⟨by decide +kernel, rfl⟩
theorem d_Ward_countedAsUsed_1 : Dj b_Ward_countedAsUsed 1 (.ifCond .ne) 24 4 := ⟨23, by decide +kernel, by decide, rfl⟩
theorem d_Ward_countedAsUsed_4 : Dc b_Ward_countedAsUsed 4 (.bipush 40) 2 6 := ⟨by decide +kernel, rfl⟩
theorem d_Ward_countedAsUsed_6 : Dc b_Ward_countedAsUsed 6 (.aload_n 0) 1 7 := ⟨by decide +kernel, rfl⟩
theorem d_Ward_countedAsUsed_7 : Dc b_Ward_countedAsUsed 7 (.getfield 55) 3 10 := ⟨by decide +kernel, rfl⟩
theorem d_Ward_countedAsUsed_10 : Dc b_Ward_countedAsUsed 10 (.iconst 1) 1 11 := ⟨by decide +kernel, rfl⟩
theorem d_Ward_countedAsUsed_11 : Dc b_Ward_countedAsUsed 11 (.invokevirtual 241) 3 14 := ⟨by decide +kernel, rfl⟩
theorem d_Ward_countedAsUsed_14 : Dc b_Ward_countedAsUsed 14 .imul 1 15 := ⟨by decide +kernel, rfl⟩
theorem d_Ward_countedAsUsed_15 : Dc b_Ward_countedAsUsed 15 (.aload_n 0) 1 16 := ⟨by decide +kernel, rfl⟩
theorem d_Ward_countedAsUsed_16 : Dc b_Ward_countedAsUsed 16 (.getfield 69) 3 19 := ⟨by decide +kernel, rfl⟩
theorem d_Ward_countedAsUsed_19 : Dc b_Ward_countedAsUsed 19 (.getfield 410) 3 22 := ⟨by decide +kernel, rfl⟩
theorem d_Ward_countedAsUsed_22 : Dc b_Ward_countedAsUsed 22 .iadd 1 23 := ⟨by decide +kernel, rfl⟩
theorem d_Ward_countedAsUsed_23 : Dc b_Ward_countedAsUsed 23 .ireturn 1 24 := ⟨by decide +kernel, rfl⟩
theorem d_Ward_countedAsUsed_24 : Dc b_Ward_countedAsUsed 24 (.aload_n 0) 1 25 := ⟨by decide +kernel, rfl⟩
theorem d_Ward_countedAsUsed_25 : Dc b_Ward_countedAsUsed 25 (.getfield 55) 3 28 := ⟨by decide +kernel, rfl⟩
theorem d_Ward_countedAsUsed_28 : Dc b_Ward_countedAsUsed 28 (.invokevirtual 413) 3 31 := ⟨by decide +kernel, rfl⟩
theorem d_Ward_countedAsUsed_31 : Dc b_Ward_countedAsUsed 31 (.aload_n 0) 1 32 := ⟨by decide +kernel, rfl⟩
theorem d_Ward_countedAsUsed_32 : Dc b_Ward_countedAsUsed 32 (.getfield 69) 3 35 := ⟨by decide +kernel, rfl⟩
theorem d_Ward_countedAsUsed_35 : Dc b_Ward_countedAsUsed 35 (.getfield 246) 3 38 := ⟨by decide +kernel, rfl⟩
theorem d_Ward_countedAsUsed_38 : Dc b_Ward_countedAsUsed 38 .iadd 1 39 := ⟨by decide +kernel, rfl⟩
theorem d_Ward_countedAsUsed_39 : Dc b_Ward_countedAsUsed 39 (.istore_n 2) 1 40 := ⟨by decide +kernel, rfl⟩
theorem d_Ward_countedAsUsed_40 : Dc b_Ward_countedAsUsed 40 (.iload_n 1) 1 41 := ⟨by decide +kernel, rfl⟩
theorem d_Ward_countedAsUsed_41 : Dc b_Ward_countedAsUsed 41 (.iconst 1) 1 42 := ⟨by decide +kernel, rfl⟩
theorem d_Ward_countedAsUsed_42 : Dj b_Ward_countedAsUsed 42 (.if_icmp .ne) 49 45 := ⟨7, by decide +kernel, by decide, rfl⟩
theorem d_Ward_countedAsUsed_45 : Dc b_Ward_countedAsUsed 45 (.iload_n 2) 1 46 := ⟨by decide +kernel, rfl⟩
theorem d_Ward_countedAsUsed_46 : Dj b_Ward_countedAsUsed 46 .goto 58 49 := ⟨12, by decide +kernel, by decide, rfl⟩
theorem d_Ward_countedAsUsed_49 : Dc b_Ward_countedAsUsed 49 (.iload_n 2) 1 50 := ⟨by decide +kernel, rfl⟩
theorem d_Ward_countedAsUsed_50 : Dc b_Ward_countedAsUsed 50 (.aload_n 0) 1 51 := ⟨by decide +kernel, rfl⟩
theorem d_Ward_countedAsUsed_51 : Dc b_Ward_countedAsUsed 51 (.getfield 62) 3 54 := ⟨by decide +kernel, rfl⟩
theorem d_Ward_countedAsUsed_54 : Dc b_Ward_countedAsUsed 54 (.getfield 263) 3 57 := ⟨by decide +kernel, rfl⟩
theorem d_Ward_countedAsUsed_57 : Dc b_Ward_countedAsUsed 57 .iadd 1 58 := ⟨by decide +kernel, rfl⟩
theorem d_Ward_countedAsUsed_58 : Dc b_Ward_countedAsUsed 58 .ireturn 1 59 := ⟨by decide +kernel, rfl⟩
abbrev b_Ward_digest : ByteArray := prog_1_method_26_code
def y_Ward_digest : MethodName := ⟨"BinWard", "digest", "()J"⟩
theorem d_Ward_digest_0 : Dc b_Ward_digest 0 (.ldc2_w 319) 3 3 := ⟨by decide +kernel, rfl⟩
theorem d_Ward_digest_3 : Dc b_Ward_digest 3 (.lstore_n 1) 1 4 := ⟨by decide +kernel, rfl⟩
theorem d_Ward_digest_4 : Dc b_Ward_digest 4 (.iconst 0) 1 5 := ⟨by decide +kernel, rfl⟩
theorem d_Ward_digest_5 : Dc b_Ward_digest 5 (.istore_n 3) 1 6 := ⟨by decide +kernel, rfl⟩
theorem d_Ward_digest_6 : Dc b_Ward_digest 6 (.iload_n 3) 1 7 := ⟨by decide +kernel, rfl⟩
theorem d_Ward_digest_7 : Dc b_Ward_digest 7 (.bipush 18) 2 9 := ⟨by decide +kernel, rfl⟩
theorem d_Ward_digest_9 : Dj b_Ward_digest 9 (.if_icmp .ge) 31 12 := ⟨22, by decide +kernel, by decide, rfl⟩
theorem d_Ward_digest_12 : Dc b_Ward_digest 12 (.lload_n 1) 1 13 := ⟨by decide +kernel, rfl⟩
theorem d_Ward_digest_13 : Dc b_Ward_digest 13 (.ldc2_w 321) 3 16 := ⟨by decide +kernel, rfl⟩
theorem d_Ward_digest_16 : Dc b_Ward_digest 16 .lmul 1 17 := ⟨by decide +kernel, rfl⟩
theorem d_Ward_digest_17 : Dc b_Ward_digest 17 (.aload_n 0) 1 18 := ⟨by decide +kernel, rfl⟩
theorem d_Ward_digest_18 : Dc b_Ward_digest 18 (.iload_n 3) 1 19 := ⟨by decide +kernel, rfl⟩
theorem d_Ward_digest_19 : Dc b_Ward_digest 19 (.invokevirtual 323) 3 22 := ⟨by decide +kernel, rfl⟩
theorem d_Ward_digest_22 : Dc b_Ward_digest 22 .i2l 1 23 := ⟨by decide +kernel, rfl⟩
theorem d_Ward_digest_23 : Dc b_Ward_digest 23 .ladd 1 24 := ⟨by decide +kernel, rfl⟩
theorem d_Ward_digest_24 : Dc b_Ward_digest 24 (.lstore_n 1) 1 25 := ⟨by decide +kernel, rfl⟩
theorem d_Ward_digest_25 : Dc b_Ward_digest 25 (.iinc 3 1) 3 28 := ⟨by decide +kernel, rfl⟩
theorem d_Ward_digest_28 : Dj b_Ward_digest 28 .goto 6 31 := ⟨-22, by decide +kernel, by decide, rfl⟩
theorem d_Ward_digest_31 : Dc b_Ward_digest 31 (.iconst 0) 1 32 := ⟨by decide +kernel, rfl⟩
theorem d_Ward_digest_32 : Dc b_Ward_digest 32 (.istore_n 3) 1 33 := ⟨by decide +kernel, rfl⟩
theorem d_Ward_digest_33 : Dc b_Ward_digest 33 (.iload_n 3) 1 34 := ⟨by decide +kernel, rfl⟩
theorem d_Ward_digest_34 : Dc b_Ward_digest 34 (.iconst 3) 1 35 := ⟨by decide +kernel, rfl⟩
theorem d_Ward_digest_35 : Dj b_Ward_digest 35 (.if_icmp .ge) 57 38 := ⟨22, by decide +kernel, by decide, rfl⟩
theorem d_Ward_digest_38 : Dc b_Ward_digest 38 (.lload_n 1) 1 39 := ⟨by decide +kernel, rfl⟩
theorem d_Ward_digest_39 : Dc b_Ward_digest 39 (.ldc2_w 321) 3 42 := ⟨by decide +kernel, rfl⟩
theorem d_Ward_digest_42 : Dc b_Ward_digest 42 .lmul 1 43 := ⟨by decide +kernel, rfl⟩
theorem d_Ward_digest_43 : Dc b_Ward_digest 43 (.aload_n 0) 1 44 := ⟨by decide +kernel, rfl⟩
theorem d_Ward_digest_44 : Dc b_Ward_digest 44 (.iload_n 3) 1 45 := ⟨by decide +kernel, rfl⟩
theorem d_Ward_digest_45 : Dc b_Ward_digest 45 (.invokevirtual 326) 3 48 := ⟨by decide +kernel, rfl⟩
theorem d_Ward_digest_48 : Dc b_Ward_digest 48 .i2l 1 49 := ⟨by decide +kernel, rfl⟩
theorem d_Ward_digest_49 : Dc b_Ward_digest 49 .ladd 1 50 := ⟨by decide +kernel, rfl⟩
theorem d_Ward_digest_50 : Dc b_Ward_digest 50 (.lstore_n 1) 1 51 := ⟨by decide +kernel, rfl⟩
theorem d_Ward_digest_51 : Dc b_Ward_digest 51 (.iinc 3 1) 3 54 := ⟨by decide +kernel, rfl⟩
theorem d_Ward_digest_54 : Dj b_Ward_digest 54 .goto 33 57 := ⟨-21, by decide +kernel, by decide, rfl⟩
theorem d_Ward_digest_57 : Dc b_Ward_digest 57 (.iconst 0) 1 58 := ⟨by decide +kernel, rfl⟩
theorem d_Ward_digest_58 : Dc b_Ward_digest 58 (.istore_n 3) 1 59 := ⟨by decide +kernel, rfl⟩
theorem d_Ward_digest_59 : Dc b_Ward_digest 59 (.iload_n 3) 1 60 := ⟨by decide +kernel, rfl⟩
theorem d_Ward_digest_60 : Dc b_Ward_digest 60 (.aload_n 0) 1 61 := ⟨by decide +kernel, rfl⟩
theorem d_Ward_digest_61 : Dc b_Ward_digest 61 (.getfield 86) 3 64 := ⟨by decide +kernel, rfl⟩
theorem d_Ward_digest_64 : Dj b_Ward_digest 64 (.if_icmp .ge) 80 67 := ⟨16, by decide +kernel, by decide, rfl⟩
theorem d_Ward_digest_67 : Dc b_Ward_digest 67 (.aload_n 0) 1 68 := ⟨by decide +kernel, rfl⟩
theorem d_Ward_digest_68 : Dc b_Ward_digest 68 (.lload_n 1) 1 69 := ⟨by decide +kernel, rfl⟩
theorem d_Ward_digest_69 : Dc b_Ward_digest 69 (.iload_n 3) 1 70 := ⟨by decide +kernel, rfl⟩
theorem d_Ward_digest_70 : Dc b_Ward_digest 70 (.invokevirtual 329) 3 73 := ⟨by decide +kernel, rfl⟩
theorem d_Ward_digest_73 : Dc b_Ward_digest 73 (.lstore_n 1) 1 74 := ⟨by decide +kernel, rfl⟩
theorem d_Ward_digest_74 : Dc b_Ward_digest 74 (.iinc 3 1) 3 77 := ⟨by decide +kernel, rfl⟩
theorem d_Ward_digest_77 : Dj b_Ward_digest 77 .goto 59 80 := ⟨-18, by decide +kernel, by decide, rfl⟩
theorem d_Ward_digest_80 : Dc b_Ward_digest 80 (.iconst 0) 1 81 := ⟨by decide +kernel, rfl⟩
theorem d_Ward_digest_81 : Dc b_Ward_digest 81 (.istore_n 3) 1 82 := ⟨by decide +kernel, rfl⟩
theorem d_Ward_digest_82 : Dc b_Ward_digest 82 (.iload_n 3) 1 83 := ⟨by decide +kernel, rfl⟩
theorem d_Ward_digest_83 : Dc b_Ward_digest 83 (.aload_n 0) 1 84 := ⟨by decide +kernel, rfl⟩
theorem d_Ward_digest_84 : Dc b_Ward_digest 84 (.getfield 115) 3 87 := ⟨by decide +kernel, rfl⟩
theorem d_Ward_digest_87 : Dj b_Ward_digest 87 (.if_icmp .ge) 103 90 := ⟨16, by decide +kernel, by decide, rfl⟩
theorem d_Ward_digest_90 : Dc b_Ward_digest 90 (.aload_n 0) 1 91 := ⟨by decide +kernel, rfl⟩
theorem d_Ward_digest_91 : Dc b_Ward_digest 91 (.lload_n 1) 1 92 := ⟨by decide +kernel, rfl⟩
theorem d_Ward_digest_92 : Dc b_Ward_digest 92 (.iload_n 3) 1 93 := ⟨by decide +kernel, rfl⟩
theorem d_Ward_digest_93 : Dc b_Ward_digest 93 (.invokevirtual 333) 3 96 := ⟨by decide +kernel, rfl⟩
theorem d_Ward_digest_96 : Dc b_Ward_digest 96 (.lstore_n 1) 1 97 := ⟨by decide +kernel, rfl⟩
theorem d_Ward_digest_97 : Dc b_Ward_digest 97 (.iinc 3 1) 3 100 := ⟨by decide +kernel, rfl⟩
theorem d_Ward_digest_100 : Dj b_Ward_digest 100 .goto 82 103 := ⟨-18, by decide +kernel, by decide, rfl⟩
theorem d_Ward_digest_103 : Dc b_Ward_digest 103 (.iconst 0) 1 104 := ⟨by decide +kernel, rfl⟩
theorem d_Ward_digest_104 : Dc b_Ward_digest 104 (.istore_n 3) 1 105 := ⟨by decide +kernel, rfl⟩
theorem d_Ward_digest_105 : Dc b_Ward_digest 105 (.iload_n 3) 1 106 := ⟨by decide +kernel, rfl⟩
theorem d_Ward_digest_106 : Dc b_Ward_digest 106 (.aload_n 0) 1 107 := ⟨by decide +kernel, rfl⟩
theorem d_Ward_digest_107 : Dc b_Ward_digest 107 (.getfield 55) 3 110 := ⟨by decide +kernel, rfl⟩
theorem d_Ward_digest_110 : Dc b_Ward_digest 110 (.getfield 238) 3 113 := ⟨by decide +kernel, rfl⟩
theorem d_Ward_digest_113 : Dj b_Ward_digest 113 (.if_icmp .ge) 152 116 := ⟨39, by decide +kernel, by decide, rfl⟩
theorem d_Ward_digest_116 : Dc b_Ward_digest 116 (.iconst 0) 1 117 := ⟨by decide +kernel, rfl⟩
theorem d_Ward_digest_117 : Dc b_Ward_digest 117 (.istore 4) 2 119 := ⟨by decide +kernel, rfl⟩
theorem d_Ward_digest_119 : Dc b_Ward_digest 119 (.iload 4) 2 121 := ⟨by decide +kernel, rfl⟩
theorem d_Ward_digest_121 : Dc b_Ward_digest 121 (.iconst 4) 1 122 := ⟨by decide +kernel, rfl⟩
theorem d_Ward_digest_122 : Dj b_Ward_digest 122 (.if_icmp .ge) 146 125 := ⟨24, by decide +kernel, by decide, rfl⟩
theorem d_Ward_digest_125 : Dc b_Ward_digest 125 (.lload_n 1) 1 126 := ⟨by decide +kernel, rfl⟩
theorem d_Ward_digest_126 : Dc b_Ward_digest 126 (.ldc2_w 321) 3 129 := ⟨by decide +kernel, rfl⟩
theorem d_Ward_digest_129 : Dc b_Ward_digest 129 .lmul 1 130 := ⟨by decide +kernel, rfl⟩
theorem d_Ward_digest_130 : Dc b_Ward_digest 130 (.aload_n 0) 1 131 := ⟨by decide +kernel, rfl⟩
theorem d_Ward_digest_131 : Dc b_Ward_digest 131 (.iload_n 3) 1 132 := ⟨by decide +kernel, rfl⟩
theorem d_Ward_digest_132 : Dc b_Ward_digest 132 (.iload 4) 2 134 := ⟨by decide +kernel, rfl⟩
theorem d_Ward_digest_134 : Dc b_Ward_digest 134 (.invokevirtual 336) 3 137 := ⟨by decide +kernel, rfl⟩
theorem d_Ward_digest_137 : Dc b_Ward_digest 137 .i2l 1 138 := ⟨by decide +kernel, rfl⟩
theorem d_Ward_digest_138 : Dc b_Ward_digest 138 .ladd 1 139 := ⟨by decide +kernel, rfl⟩
theorem d_Ward_digest_139 : Dc b_Ward_digest 139 (.lstore_n 1) 1 140 := ⟨by decide +kernel, rfl⟩
theorem d_Ward_digest_140 : Dc b_Ward_digest 140 (.iinc 4 1) 3 143 := ⟨by decide +kernel, rfl⟩
theorem d_Ward_digest_143 : Dj b_Ward_digest 143 .goto 119 146 := ⟨-24, by decide +kernel, by decide, rfl⟩
theorem d_Ward_digest_146 : Dc b_Ward_digest 146 (.iinc 3 1) 3 149 := ⟨by decide +kernel, rfl⟩
theorem d_Ward_digest_149 : Dj b_Ward_digest 149 .goto 105 152 := ⟨-44, by decide +kernel, by decide, rfl⟩
theorem d_Ward_digest_152 : Dc b_Ward_digest 152 (.lload_n 1) 1 153 := ⟨by decide +kernel, rfl⟩
theorem d_Ward_digest_153 : Dc b_Ward_digest 153 (.ldc2_w 321) 3 156 := ⟨by decide +kernel, rfl⟩
theorem d_Ward_digest_156 : Dc b_Ward_digest 156 .lmul 1 157 := ⟨by decide +kernel, rfl⟩
theorem d_Ward_digest_157 : Dc b_Ward_digest 157 (.aload_n 0) 1 158 := ⟨by decide +kernel, rfl⟩
theorem d_Ward_digest_158 : Dc b_Ward_digest 158 (.iconst 3) 1 159 := ⟨by decide +kernel, rfl⟩
theorem d_Ward_digest_159 : Dc b_Ward_digest 159 (.invokevirtual 339) 3 162 := ⟨by decide +kernel, rfl⟩
theorem d_Ward_digest_162 : Dc b_Ward_digest 162 .i2l 1 163 := ⟨by decide +kernel, rfl⟩
theorem d_Ward_digest_163 : Dc b_Ward_digest 163 .ladd 1 164 := ⟨by decide +kernel, rfl⟩
theorem d_Ward_digest_164 : Dc b_Ward_digest 164 .lreturn 1 165 := ⟨by decide +kernel, rfl⟩
abbrev b_Ward_digestOfLorry : ByteArray := prog_1_method_28_code
def y_Ward_digestOfLorry : MethodName := ⟨"BinWard", "digestOfLorry", "(JI)J"⟩
theorem d_Ward_digestOfLorry_0 : Dc b_Ward_digestOfLorry 0 (.lload_n 1) 1 1 := ⟨by decide +kernel, rfl⟩
theorem d_Ward_digestOfLorry_1 : Dc b_Ward_digestOfLorry 1 (.lstore 4) 2 3 := ⟨by decide +kernel, rfl⟩
theorem d_Ward_digestOfLorry_3 : Dc b_Ward_digestOfLorry 3 (.iconst 0) 1 4 := ⟨by decide +kernel, rfl⟩
theorem d_Ward_digestOfLorry_4 : Dc b_Ward_digestOfLorry 4 (.istore 6) 2 6 := ⟨by decide +kernel, rfl⟩
theorem d_Ward_digestOfLorry_6 : Dc b_Ward_digestOfLorry 6 (.iload 6) 2 8 := ⟨by decide +kernel, rfl⟩
theorem d_Ward_digestOfLorry_8 : Dc b_Ward_digestOfLorry 8 (.bipush 7) 2 10 := ⟨by decide +kernel, rfl⟩
theorem d_Ward_digestOfLorry_10 : Dj b_Ward_digestOfLorry 10 (.if_icmp .ge) 36 13 := ⟨26, by decide +kernel, by decide, rfl⟩
theorem d_Ward_digestOfLorry_13 : Dc b_Ward_digestOfLorry 13 (.lload 4) 2 15 := ⟨by decide +kernel, rfl⟩
theorem d_Ward_digestOfLorry_15 : Dc b_Ward_digestOfLorry 15 (.ldc2_w 321) 3 18 := ⟨by decide +kernel, rfl⟩
theorem d_Ward_digestOfLorry_18 : Dc b_Ward_digestOfLorry 18 .lmul 1 19 := ⟨by decide +kernel, rfl⟩
theorem d_Ward_digestOfLorry_19 : Dc b_Ward_digestOfLorry 19 (.aload_n 0) 1 20 := ⟨by decide +kernel, rfl⟩
theorem d_Ward_digestOfLorry_20 : Dc b_Ward_digestOfLorry 20 (.iload_n 3) 1 21 := ⟨by decide +kernel, rfl⟩
theorem d_Ward_digestOfLorry_21 : Dc b_Ward_digestOfLorry 21 (.iload 6) 2 23 := ⟨by decide +kernel, rfl⟩
theorem d_Ward_digestOfLorry_23 : Dc b_Ward_digestOfLorry 23 (.invokevirtual 348) 3 26 := ⟨by decide +kernel, rfl⟩
theorem d_Ward_digestOfLorry_26 : Dc b_Ward_digestOfLorry 26 .i2l 1 27 := ⟨by decide +kernel, rfl⟩
theorem d_Ward_digestOfLorry_27 : Dc b_Ward_digestOfLorry 27 .ladd 1 28 := ⟨by decide +kernel, rfl⟩
theorem d_Ward_digestOfLorry_28 : Dc b_Ward_digestOfLorry 28 (.lstore 4) 2 30 := ⟨by decide +kernel, rfl⟩
theorem d_Ward_digestOfLorry_30 : Dc b_Ward_digestOfLorry 30 (.iinc 6 1) 3 33 := ⟨by decide +kernel, rfl⟩
theorem d_Ward_digestOfLorry_33 : Dj b_Ward_digestOfLorry 33 .goto 6 36 := ⟨-27, by decide +kernel, by decide, rfl⟩
theorem d_Ward_digestOfLorry_36 : Dc b_Ward_digestOfLorry 36 (.aload_n 0) 1 37 := ⟨by decide +kernel, rfl⟩
theorem d_Ward_digestOfLorry_37 : Dc b_Ward_digestOfLorry 37 (.getfield 34) 3 40 := ⟨by decide +kernel, rfl⟩
theorem d_Ward_digestOfLorry_40 : Dc b_Ward_digestOfLorry 40 (.aload_n 0) 1 41 := ⟨by decide +kernel, rfl⟩
theorem d_Ward_digestOfLorry_41 : Dc b_Ward_digestOfLorry 41 (.getfield 20) 3 44 := ⟨by decide +kernel, rfl⟩
theorem d_Ward_digestOfLorry_44 : Dc b_Ward_digestOfLorry 44 (.iload_n 3) 1 45 := ⟨by decide +kernel, rfl⟩
theorem d_Ward_digestOfLorry_45 : Dc b_Ward_digestOfLorry 45 .aaload 1 46 := ⟨by decide +kernel, rfl⟩
theorem d_Ward_digestOfLorry_46 : Dc b_Ward_digestOfLorry 46 (.aload_n 0) 1 47 := ⟨by decide +kernel, rfl⟩
theorem d_Ward_digestOfLorry_47 : Dc b_Ward_digestOfLorry 47 (.getfield 11) 3 50 := ⟨by decide +kernel, rfl⟩
theorem d_Ward_digestOfLorry_50 : Dc b_Ward_digestOfLorry 50 (.aload_n 0) 1 51 := ⟨by decide +kernel, rfl⟩
theorem d_Ward_digestOfLorry_51 : Dc b_Ward_digestOfLorry 51 (.getfield 86) 3 54 := ⟨by decide +kernel, rfl⟩
theorem d_Ward_digestOfLorry_54 : Dc b_Ward_digestOfLorry 54 (.invokevirtual 292) 3 57 := ⟨by decide +kernel, rfl⟩
theorem d_Ward_digestOfLorry_57 : Dc b_Ward_digestOfLorry 57 (.lload 4) 2 59 := ⟨by decide +kernel, rfl⟩
theorem d_Ward_digestOfLorry_59 : Dc b_Ward_digestOfLorry 59 (.ldc2_w 321) 3 62 := ⟨by decide +kernel, rfl⟩
theorem d_Ward_digestOfLorry_62 : Dc b_Ward_digestOfLorry 62 .lmul 1 63 := ⟨by decide +kernel, rfl⟩
theorem d_Ward_digestOfLorry_63 : Dc b_Ward_digestOfLorry 63 (.aload_n 0) 1 64 := ⟨by decide +kernel, rfl⟩
theorem d_Ward_digestOfLorry_64 : Dc b_Ward_digestOfLorry 64 (.getfield 34) 3 67 := ⟨by decide +kernel, rfl⟩
theorem d_Ward_digestOfLorry_67 : Dc b_Ward_digestOfLorry 67 (.getfield 296) 3 70 := ⟨by decide +kernel, rfl⟩
theorem d_Ward_digestOfLorry_70 : Dc b_Ward_digestOfLorry 70 .i2l 1 71 := ⟨by decide +kernel, rfl⟩
theorem d_Ward_digestOfLorry_71 : Dc b_Ward_digestOfLorry 71 .ladd 1 72 := ⟨by decide +kernel, rfl⟩
theorem d_Ward_digestOfLorry_72 : Dc b_Ward_digestOfLorry 72 (.lstore 4) 2 74 := ⟨by decide +kernel, rfl⟩
theorem d_Ward_digestOfLorry_74 : Dc b_Ward_digestOfLorry 74 (.lload 4) 2 76 := ⟨by decide +kernel, rfl⟩
theorem d_Ward_digestOfLorry_76 : Dc b_Ward_digestOfLorry 76 (.ldc2_w 321) 3 79 := ⟨by decide +kernel, rfl⟩
theorem d_Ward_digestOfLorry_79 : Dc b_Ward_digestOfLorry 79 .lmul 1 80 := ⟨by decide +kernel, rfl⟩
theorem d_Ward_digestOfLorry_80 : Dc b_Ward_digestOfLorry 80 (.aload_n 0) 1 81 := ⟨by decide +kernel, rfl⟩
theorem d_Ward_digestOfLorry_81 : Dc b_Ward_digestOfLorry 81 (.getfield 34) 3 84 := ⟨by decide +kernel, rfl⟩
theorem d_Ward_digestOfLorry_84 : Dc b_Ward_digestOfLorry 84 (.getfield 299) 3 87 := ⟨by decide +kernel, rfl⟩
theorem d_Ward_digestOfLorry_87 : Dc b_Ward_digestOfLorry 87 .i2l 1 88 := ⟨by decide +kernel, rfl⟩
theorem d_Ward_digestOfLorry_88 : Dc b_Ward_digestOfLorry 88 .ladd 1 89 := ⟨by decide +kernel, rfl⟩
theorem d_Ward_digestOfLorry_89 : Dc b_Ward_digestOfLorry 89 .lreturn 1 90 := ⟨by decide +kernel, rfl⟩
abbrev b_Ward_digestOfStreet : ByteArray := prog_1_method_27_code
def y_Ward_digestOfStreet : MethodName := ⟨"BinWard", "digestOfStreet", "(JI)J"⟩
theorem d_Ward_digestOfStreet_0 : Dc b_Ward_digestOfStreet 0 (.lload_n 1) 1 1 := ⟨by decide +kernel, rfl⟩
theorem d_Ward_digestOfStreet_1 : Dc b_Ward_digestOfStreet 1 (.lstore 4) 2 3 := ⟨by decide +kernel, rfl⟩
theorem d_Ward_digestOfStreet_3 : Dc b_Ward_digestOfStreet 3 (.iconst 0) 1 4 := ⟨by decide +kernel, rfl⟩
theorem d_Ward_digestOfStreet_4 : Dc b_Ward_digestOfStreet 4 (.istore 6) 2 6 := ⟨by decide +kernel, rfl⟩
theorem d_Ward_digestOfStreet_6 : Dc b_Ward_digestOfStreet 6 (.iload 6) 2 8 := ⟨by decide +kernel, rfl⟩
theorem d_Ward_digestOfStreet_8 : Dc b_Ward_digestOfStreet 8 (.bipush 13) 2 10 := ⟨by decide +kernel, rfl⟩
theorem d_Ward_digestOfStreet_10 : Dj b_Ward_digestOfStreet 10 (.if_icmp .ge) 36 13 := ⟨26, by decide +kernel, by decide, rfl⟩
theorem d_Ward_digestOfStreet_13 : Dc b_Ward_digestOfStreet 13 (.lload 4) 2 15 := ⟨by decide +kernel, rfl⟩
theorem d_Ward_digestOfStreet_15 : Dc b_Ward_digestOfStreet 15 (.ldc2_w 321) 3 18 := ⟨by decide +kernel, rfl⟩
theorem d_Ward_digestOfStreet_18 : Dc b_Ward_digestOfStreet 18 .lmul 1 19 := ⟨by decide +kernel, rfl⟩
theorem d_Ward_digestOfStreet_19 : Dc b_Ward_digestOfStreet 19 (.aload_n 0) 1 20 := ⟨by decide +kernel, rfl⟩
theorem d_Ward_digestOfStreet_20 : Dc b_Ward_digestOfStreet 20 (.iload_n 3) 1 21 := ⟨by decide +kernel, rfl⟩
theorem d_Ward_digestOfStreet_21 : Dc b_Ward_digestOfStreet 21 (.iload 6) 2 23 := ⟨by decide +kernel, rfl⟩
theorem d_Ward_digestOfStreet_23 : Dc b_Ward_digestOfStreet 23 (.invokevirtual 342) 3 26 := ⟨by decide +kernel, rfl⟩
theorem d_Ward_digestOfStreet_26 : Dc b_Ward_digestOfStreet 26 .i2l 1 27 := ⟨by decide +kernel, rfl⟩
theorem d_Ward_digestOfStreet_27 : Dc b_Ward_digestOfStreet 27 .ladd 1 28 := ⟨by decide +kernel, rfl⟩
theorem d_Ward_digestOfStreet_28 : Dc b_Ward_digestOfStreet 28 (.lstore 4) 2 30 := ⟨by decide +kernel, rfl⟩
theorem d_Ward_digestOfStreet_30 : Dc b_Ward_digestOfStreet 30 (.iinc 6 1) 3 33 := ⟨by decide +kernel, rfl⟩
theorem d_Ward_digestOfStreet_33 : Dj b_Ward_digestOfStreet 33 .goto 6 36 := ⟨-27, by decide +kernel, by decide, rfl⟩
theorem d_Ward_digestOfStreet_36 : Dc b_Ward_digestOfStreet 36 (.iconst 0) 1 37 := ⟨by decide +kernel, rfl⟩
theorem d_Ward_digestOfStreet_37 : Dc b_Ward_digestOfStreet 37 (.istore 6) 2 39 := ⟨by decide +kernel, rfl⟩
theorem d_Ward_digestOfStreet_39 : Dc b_Ward_digestOfStreet 39 (.iload 6) 2 41 := ⟨by decide +kernel, rfl⟩
theorem d_Ward_digestOfStreet_41 : Dc b_Ward_digestOfStreet 41 (.iconst 3) 1 42 := ⟨by decide +kernel, rfl⟩
theorem d_Ward_digestOfStreet_42 : Dj b_Ward_digestOfStreet 42 (.if_icmp .ge) 68 45 := ⟨26, by decide +kernel, by decide, rfl⟩
theorem d_Ward_digestOfStreet_45 : Dc b_Ward_digestOfStreet 45 (.lload 4) 2 47 := ⟨by decide +kernel, rfl⟩
theorem d_Ward_digestOfStreet_47 : Dc b_Ward_digestOfStreet 47 (.ldc2_w 321) 3 50 := ⟨by decide +kernel, rfl⟩
theorem d_Ward_digestOfStreet_50 : Dc b_Ward_digestOfStreet 50 .lmul 1 51 := ⟨by decide +kernel, rfl⟩
theorem d_Ward_digestOfStreet_51 : Dc b_Ward_digestOfStreet 51 (.aload_n 0) 1 52 := ⟨by decide +kernel, rfl⟩
theorem d_Ward_digestOfStreet_52 : Dc b_Ward_digestOfStreet 52 (.iload_n 3) 1 53 := ⟨by decide +kernel, rfl⟩
theorem d_Ward_digestOfStreet_53 : Dc b_Ward_digestOfStreet 53 (.iload 6) 2 55 := ⟨by decide +kernel, rfl⟩
theorem d_Ward_digestOfStreet_55 : Dc b_Ward_digestOfStreet 55 (.invokevirtual 345) 3 58 := ⟨by decide +kernel, rfl⟩
theorem d_Ward_digestOfStreet_58 : Dc b_Ward_digestOfStreet 58 .i2l 1 59 := ⟨by decide +kernel, rfl⟩
theorem d_Ward_digestOfStreet_59 : Dc b_Ward_digestOfStreet 59 .ladd 1 60 := ⟨by decide +kernel, rfl⟩
theorem d_Ward_digestOfStreet_60 : Dc b_Ward_digestOfStreet 60 (.lstore 4) 2 62 := ⟨by decide +kernel, rfl⟩
theorem d_Ward_digestOfStreet_62 : Dc b_Ward_digestOfStreet 62 (.iinc 6 1) 3 65 := ⟨by decide +kernel, rfl⟩
theorem d_Ward_digestOfStreet_65 : Dj b_Ward_digestOfStreet 65 .goto 39 68 := ⟨-26, by decide +kernel, by decide, rfl⟩
theorem d_Ward_digestOfStreet_68 : Dc b_Ward_digestOfStreet 68 (.lload 4) 2 70 := ⟨by decide +kernel, rfl⟩
theorem d_Ward_digestOfStreet_70 : Dc b_Ward_digestOfStreet 70 .lreturn 1 71 := ⟨by decide +kernel, rfl⟩
abbrev b_Ward_dirt : ByteArray := prog_1_method_4_code
def y_Ward_dirt : MethodName := ⟨"BinWard", "dirt", "(II)I"⟩
theorem d_Ward_dirt_0 : Dc b_Ward_dirt 0 (.aload_n 0) 1 1 := ⟨by decide +kernel, rfl⟩
theorem d_Ward_dirt_1 : Dc b_Ward_dirt 1 (.iload_n 1) 1 2 := ⟨by decide +kernel, rfl⟩
theorem d_Ward_dirt_2 : Dc b_Ward_dirt 2 (.invokevirtual 103) 3 5 := ⟨by decide +kernel, rfl⟩
theorem d_Ward_dirt_5 : Dc b_Ward_dirt 5 (.astore_n 3) 1 6 := ⟨by decide +kernel, rfl⟩
theorem d_Ward_dirt_6 : Dc b_Ward_dirt 6 (.iload_n 2) 1 7 := ⟨by decide +kernel, rfl⟩
theorem d_Ward_dirt_7 : Dc b_Ward_dirt 7 (.iconst 0) 1 8 := ⟨by decide +kernel, rfl⟩
theorem d_Ward_dirt_8 : Dc b_Ward_dirt 8 (.iconst 4) 1 9 := ⟨by decide +kernel, rfl⟩
theorem d_Ward_dirt_9 : Dc b_Ward_dirt 9 (.invokestatic 82) 3 12 := ⟨by decide +kernel, rfl⟩
theorem d_Ward_dirt_12 : Dc b_Ward_dirt 12 (.aload_n 3) 1 13 := ⟨by decide +kernel, rfl⟩
theorem d_Ward_dirt_13 : Dc b_Ward_dirt 13 (.getfield 100) 3 16 := ⟨by decide +kernel, rfl⟩
theorem d_Ward_dirt_16 : Dc b_Ward_dirt 16 (.istore 4) 2 18 := ⟨by decide +kernel, rfl⟩
theorem d_Ward_dirt_18 : Dc b_Ward_dirt 18 (.aload_n 3) 1 19 := ⟨by decide +kernel, rfl⟩
theorem d_Ward_dirt_19 : Dc b_Ward_dirt 19 (.iload_n 2) 1 20 := ⟨by decide +kernel, rfl⟩
theorem d_Ward_dirt_20 : Dc b_Ward_dirt 20 (.putfield 100) 3 23 := ⟨by decide +kernel, rfl⟩
theorem d_Ward_dirt_23 : Dc b_Ward_dirt 23 (.iload 4) 2 25 := ⟨by decide +kernel, rfl⟩
theorem d_Ward_dirt_25 : Dc b_Ward_dirt 25 .ireturn 1 26 := ⟨by decide +kernel, rfl⟩
abbrev b_Ward_driveRounds : ByteArray := prog_1_method_31_code
def y_Ward_driveRounds : MethodName := ⟨"BinWard", "driveRounds", "()I"⟩
theorem d_Ward_driveRounds_0 : Dc b_Ward_driveRounds 0 (.aload_n 0) 1 1 := ⟨by decide +kernel, rfl⟩
theorem d_Ward_driveRounds_1 : Dc b_Ward_driveRounds 1 (.getfield 187) 3 4 := ⟨by decide +kernel, rfl⟩
theorem d_Ward_driveRounds_4 : Dc b_Ward_driveRounds 4 (.bipush 7) 2 6 := ⟨by decide +kernel, rfl⟩
theorem d_Ward_driveRounds_6 : Dc b_Ward_driveRounds 6 (.invokestatic 310) 3 9 := ⟨by decide +kernel, rfl⟩
theorem d_Ward_driveRounds_9 : Dc b_Ward_driveRounds 9 (.istore_n 1) 1 10 := ⟨by decide +kernel, rfl⟩
theorem d_Ward_driveRounds_10 : Dc b_Ward_driveRounds 10 (.iconst 0) 1 11 := ⟨by decide +kernel, rfl⟩
theorem d_Ward_driveRounds_11 : Dc b_Ward_driveRounds 11 (.istore_n 2) 1 12 := ⟨by decide +kernel, rfl⟩
theorem d_Ward_driveRounds_12 : Dc b_Ward_driveRounds 12 (.iconst 0) 1 13 := ⟨by decide +kernel, rfl⟩
theorem d_Ward_driveRounds_13 : Dc b_Ward_driveRounds 13 (.istore_n 3) 1 14 := ⟨by decide +kernel, rfl⟩
theorem d_Ward_driveRounds_14 : Dc b_Ward_driveRounds 14 (.iload_n 3) 1 15 := ⟨by decide +kernel, rfl⟩
theorem d_Ward_driveRounds_15 : Dc b_Ward_driveRounds 15 (.aload_n 0) 1 16 := ⟨by decide +kernel, rfl⟩
theorem d_Ward_driveRounds_16 : Dc b_Ward_driveRounds 16 (.getfield 115) 3 19 := ⟨by decide +kernel, rfl⟩
theorem d_Ward_driveRounds_19 : Dj b_Ward_driveRounds 19 (.if_icmp .ge) 75 22 := ⟨56, by decide +kernel, by decide, rfl⟩
theorem d_Ward_driveRounds_22 : Dc b_Ward_driveRounds 22 (.aload_n 0) 1 23 := ⟨by decide +kernel, rfl⟩
theorem d_Ward_driveRounds_23 : Dc b_Ward_driveRounds 23 (.getfield 20) 3 26 := ⟨by decide +kernel, rfl⟩
theorem d_Ward_driveRounds_26 : Dc b_Ward_driveRounds 26 (.iload_n 3) 1 27 := ⟨by decide +kernel, rfl⟩
theorem d_Ward_driveRounds_27 : Dc b_Ward_driveRounds 27 .aaload 1 28 := ⟨by decide +kernel, rfl⟩
theorem d_Ward_driveRounds_28 : Dc b_Ward_driveRounds 28 (.astore 4) 2 30 := ⟨by decide +kernel, rfl⟩
theorem d_Ward_driveRounds_30 : Dc b_Ward_driveRounds 30 (.aload 4) 2 32 := ⟨by decide +kernel, rfl⟩
theorem d_Ward_driveRounds_32 : Dc b_Ward_driveRounds 32 (.getfield 370) 3 35 := ⟨by decide +kernel, rfl⟩
theorem d_Ward_driveRounds_35 : Dc b_Ward_driveRounds 35 (.aload 4) 2 37 := ⟨by decide +kernel, rfl⟩
theorem d_Ward_driveRounds_37 : Dc b_Ward_driveRounds 37 (.iload_n 1) 1 38 := ⟨by decide +kernel, rfl⟩
theorem d_Ward_driveRounds_38 : Dc b_Ward_driveRounds 38 (.aload_n 0) 1 39 := ⟨by decide +kernel, rfl⟩
theorem d_Ward_driveRounds_39 : Dc b_Ward_driveRounds 39 (.getfield 11) 3 42 := ⟨by decide +kernel, rfl⟩
theorem d_Ward_driveRounds_42 : Dc b_Ward_driveRounds 42 (.invokevirtual 315) 3 45 := ⟨by decide +kernel, rfl⟩
theorem d_Ward_driveRounds_45 : Dc b_Ward_driveRounds 45 (.aload 4) 2 47 := ⟨by decide +kernel, rfl⟩
theorem d_Ward_driveRounds_47 : Dc b_Ward_driveRounds 47 (.iload_n 1) 1 48 := ⟨by decide +kernel, rfl⟩
theorem d_Ward_driveRounds_48 : Dc b_Ward_driveRounds 48 (.invokevirtual 373) 3 51 := ⟨by decide +kernel, rfl⟩
theorem d_Ward_driveRounds_51 : Dc b_Ward_driveRounds 51 (.aload_n 0) 1 52 := ⟨by decide +kernel, rfl⟩
theorem d_Ward_driveRounds_52 : Dc b_Ward_driveRounds 52 (.aload 4) 2 54 := ⟨by decide +kernel, rfl⟩
theorem d_Ward_driveRounds_54 : Dc b_Ward_driveRounds 54 (.iload_n 1) 1 55 := ⟨by decide +kernel, rfl⟩
theorem d_Ward_driveRounds_55 : Dc b_Ward_driveRounds 55 (.invokevirtual 376) 3 58 := ⟨by decide +kernel, rfl⟩
theorem d_Ward_driveRounds_58 : Dc b_Ward_driveRounds 58 (.iload_n 2) 1 59 := ⟨by decide +kernel, rfl⟩
theorem d_Ward_driveRounds_59 : Dc b_Ward_driveRounds 59 (.aload 4) 2 61 := ⟨by decide +kernel, rfl⟩
theorem d_Ward_driveRounds_61 : Dc b_Ward_driveRounds 61 (.getfield 370) 3 64 := ⟨by decide +kernel, rfl⟩
theorem d_Ward_driveRounds_64 : Dc b_Ward_driveRounds 64 (.getfield 380) 3 67 := ⟨by decide +kernel, rfl⟩
theorem d_Ward_driveRounds_67 : Dc b_Ward_driveRounds 67 .iadd 1 68 := ⟨by decide +kernel, rfl⟩
theorem d_Ward_driveRounds_68 : Dc b_Ward_driveRounds 68 (.istore_n 2) 1 69 := ⟨by decide +kernel, rfl⟩
theorem d_Ward_driveRounds_69 : Dc b_Ward_driveRounds 69 (.iinc 3 1) 3 72 := ⟨by decide +kernel, rfl⟩
theorem d_Ward_driveRounds_72 : Dj b_Ward_driveRounds 72 .goto 14 75 := ⟨-58, by decide +kernel, by decide, rfl⟩
theorem d_Ward_driveRounds_75 : Dc b_Ward_driveRounds 75 (.iload_n 2) 1 76 := ⟨by decide +kernel, rfl⟩
theorem d_Ward_driveRounds_76 : Dc b_Ward_driveRounds 76 .ireturn 1 77 := ⟨by decide +kernel, rfl⟩
abbrev b_Ward_eye : ByteArray := prog_1_method_8_code
def y_Ward_eye : MethodName := ⟨"BinWard", "eye", "(I)I"⟩
theorem d_Ward_eye_0 : Dc b_Ward_eye 0 (.iload_n 1) 1 1 := ⟨by decide +kernel, rfl⟩
theorem d_Ward_eye_1 : Dc b_Ward_eye 1 (.iconst 0) 1 2 := ⟨by decide +kernel, rfl⟩
theorem d_Ward_eye_2 : Dc b_Ward_eye 2 (.bipush 100) 2 4 := ⟨by decide +kernel, rfl⟩
theorem d_Ward_eye_4 : Dc b_Ward_eye 4 (.invokestatic 82) 3 7 := ⟨by decide +kernel, rfl⟩
theorem d_Ward_eye_7 : Dc b_Ward_eye 7 (.aload_n 0) 1 8 := ⟨by decide +kernel, rfl⟩
theorem d_Ward_eye_8 : Dc b_Ward_eye 8 (.getfield 48) 3 11 := ⟨by decide +kernel, rfl⟩
theorem d_Ward_eye_11 : Dc b_Ward_eye 11 (.getfield 142) 3 14 := ⟨by decide +kernel, rfl⟩
theorem d_Ward_eye_14 : Dc b_Ward_eye 14 (.istore_n 2) 1 15 := ⟨by decide +kernel, rfl⟩
theorem d_Ward_eye_15 : Dc b_Ward_eye 15 (.aload_n 0) 1 16 := ⟨by decide +kernel, rfl⟩
theorem d_Ward_eye_16 : Dc b_Ward_eye 16 (.getfield 48) 3 19 := ⟨by decide +kernel, rfl⟩
theorem d_Ward_eye_19 : Dc b_Ward_eye 19 (.iload_n 1) 1 20 := ⟨by decide +kernel, rfl⟩
theorem d_Ward_eye_20 : Dc b_Ward_eye 20 (.putfield 142) 3 23 := ⟨by decide +kernel, rfl⟩
theorem d_Ward_eye_23 : Dc b_Ward_eye 23 (.iload_n 2) 1 24 := ⟨by decide +kernel, rfl⟩
theorem d_Ward_eye_24 : Dc b_Ward_eye 24 .ireturn 1 25 := ⟨by decide +kernel, rfl⟩
abbrev b_Ward_fetchedEver : ByteArray := prog_1_method_35_code
def y_Ward_fetchedEver : MethodName := ⟨"BinWard", "fetchedEver", "()I"⟩
theorem d_Ward_fetchedEver_0 : Dc b_Ward_fetchedEver 0 (.iconst 0) 1 1 := ⟨by decide +kernel, rfl⟩
theorem d_Ward_fetchedEver_1 : Dc b_Ward_fetchedEver 1 (.istore_n 1) 1 2 := ⟨by decide +kernel, rfl⟩
theorem d_Ward_fetchedEver_2 : Dc b_Ward_fetchedEver 2 (.iconst 0) 1 3 := ⟨by decide +kernel, rfl⟩
theorem d_Ward_fetchedEver_3 : Dc b_Ward_fetchedEver 3 (.istore_n 2) 1 4 := ⟨by decide +kernel, rfl⟩
theorem d_Ward_fetchedEver_4 : Dc b_Ward_fetchedEver 4 (.iload_n 2) 1 5 := ⟨by decide +kernel, rfl⟩
theorem d_Ward_fetchedEver_5 : Dc b_Ward_fetchedEver 5 (.aload_n 0) 1 6 := ⟨by decide +kernel, rfl⟩
theorem d_Ward_fetchedEver_6 : Dc b_Ward_fetchedEver 6 (.getfield 115) 3 9 := ⟨by decide +kernel, rfl⟩
theorem d_Ward_fetchedEver_9 : Dj b_Ward_fetchedEver 9 (.if_icmp .ge) 30 12 := ⟨21, by decide +kernel, by decide, rfl⟩
theorem d_Ward_fetchedEver_12 : Dc b_Ward_fetchedEver 12 (.iload_n 1) 1 13 := ⟨by decide +kernel, rfl⟩
theorem d_Ward_fetchedEver_13 : Dc b_Ward_fetchedEver 13 (.aload_n 0) 1 14 := ⟨by decide +kernel, rfl⟩
theorem d_Ward_fetchedEver_14 : Dc b_Ward_fetchedEver 14 (.getfield 20) 3 17 := ⟨by decide +kernel, rfl⟩
theorem d_Ward_fetchedEver_17 : Dc b_Ward_fetchedEver 17 (.iload_n 2) 1 18 := ⟨by decide +kernel, rfl⟩
theorem d_Ward_fetchedEver_18 : Dc b_Ward_fetchedEver 18 .aaload 1 19 := ⟨by decide +kernel, rfl⟩
theorem d_Ward_fetchedEver_19 : Dc b_Ward_fetchedEver 19 (.getfield 228) 3 22 := ⟨by decide +kernel, rfl⟩
theorem d_Ward_fetchedEver_22 : Dc b_Ward_fetchedEver 22 .iadd 1 23 := ⟨by decide +kernel, rfl⟩
theorem d_Ward_fetchedEver_23 : Dc b_Ward_fetchedEver 23 (.istore_n 1) 1 24 := ⟨by decide +kernel, rfl⟩
theorem d_Ward_fetchedEver_24 : Dc b_Ward_fetchedEver 24 (.iinc 2 1) 3 27 := ⟨by decide +kernel, rfl⟩
theorem d_Ward_fetchedEver_27 : Dj b_Ward_fetchedEver 27 .goto 4 30 := ⟨-23, by decide +kernel, by decide, rfl⟩
theorem d_Ward_fetchedEver_30 : Dc b_Ward_fetchedEver 30 (.iload_n 1) 1 31 := ⟨by decide +kernel, rfl⟩
theorem d_Ward_fetchedEver_31 : Dc b_Ward_fetchedEver 31 .ireturn 1 32 := ⟨by decide +kernel, rfl⟩
abbrev b_Ward_fillBins : ByteArray := prog_1_method_30_code
def y_Ward_fillBins : MethodName := ⟨"BinWard", "fillBins", "([LBinWard$Street;)V"⟩
theorem d_Ward_fillBins_0 : Dc b_Ward_fillBins 0 (.iconst 0) 1 1 := ⟨by decide +kernel, rfl⟩
theorem d_Ward_fillBins_1 : Dc b_Ward_fillBins 1 (.istore_n 2) 1 2 := ⟨by decide +kernel, rfl⟩
theorem d_Ward_fillBins_2 : Dc b_Ward_fillBins 2 (.iload_n 2) 1 3 := ⟨by decide +kernel, rfl⟩
theorem d_Ward_fillBins_3 : Dc b_Ward_fillBins 3 (.aload_n 0) 1 4 := ⟨by decide +kernel, rfl⟩
theorem d_Ward_fillBins_4 : Dc b_Ward_fillBins 4 (.getfield 86) 3 7 := ⟨by decide +kernel, rfl⟩
theorem d_Ward_fillBins_7 : Dj b_Ward_fillBins 7 (.if_icmp .ge) 22 10 := ⟨15, by decide +kernel, by decide, rfl⟩
theorem d_Ward_fillBins_10 : Dc b_Ward_fillBins 10 (.aload_n 1) 1 11 := ⟨by decide +kernel, rfl⟩
theorem d_Ward_fillBins_11 : Dc b_Ward_fillBins 11 (.iload_n 2) 1 12 := ⟨by decide +kernel, rfl⟩
theorem d_Ward_fillBins_12 : Dc b_Ward_fillBins 12 .aaload 1 13 := ⟨by decide +kernel, rfl⟩
theorem d_Ward_fillBins_13 : Dc b_Ward_fillBins 13 (.invokevirtual 367) 3 16 := ⟨by decide +kernel, rfl⟩
theorem d_Ward_fillBins_16 : Dc b_Ward_fillBins 16 (.iinc 2 1) 3 19 := ⟨by decide +kernel, rfl⟩
theorem d_Ward_fillBins_19 : Dj b_Ward_fillBins 19 .goto 2 22 := ⟨-17, by decide +kernel, by decide, rfl⟩
theorem d_Ward_fillBins_22 : Dc b_Ward_fillBins 22 .return_ 1 23 := ⟨by decide +kernel, rfl⟩
abbrev b_Ward_fullIn : ByteArray := prog_1_method_22_code
def y_Ward_fullIn : MethodName := ⟨"BinWard", "fullIn", "(II)I"⟩
theorem d_Ward_fullIn_0 : Dc b_Ward_fullIn 0 (.aload_n 0) 1 1 := ⟨by decide +kernel, rfl⟩
theorem d_Ward_fullIn_1 : Dc b_Ward_fullIn 1 (.iload_n 1) 1 2 := ⟨by decide +kernel, rfl⟩
theorem d_Ward_fullIn_2 : Dc b_Ward_fullIn 2 (.invokevirtual 103) 3 5 := ⟨by decide +kernel, rfl⟩
theorem d_Ward_fullIn_5 : Dc b_Ward_fullIn 5 (.astore_n 3) 1 6 := ⟨by decide +kernel, rfl⟩
theorem d_Ward_fullIn_6 : Dc b_Ward_fullIn 6 (.iload_n 2) 1 7 := ⟨by decide +kernel, rfl⟩
theorem d_Ward_fullIn_7 : Dc b_Ward_fullIn 7 (.iconst 3) 1 8 := ⟨by decide +kernel, rfl⟩
theorem d_Ward_fullIn_8 : Dc b_Ward_fullIn 8 (.invokestatic 107) 3 11 := ⟨by decide +kernel, rfl⟩
theorem d_Ward_fullIn_11 : Dc b_Ward_fullIn 11 (.aload_n 3) 1 12 := ⟨by decide +kernel, rfl⟩
theorem d_Ward_fullIn_12 : Dc b_Ward_fullIn 12 (.iload_n 2) 1 13 := ⟨by decide +kernel, rfl⟩
theorem d_Ward_fullIn_13 : Dc b_Ward_fullIn 13 (.invokevirtual 285) 3 16 := ⟨by decide +kernel, rfl⟩
theorem d_Ward_fullIn_16 : Dc b_Ward_fullIn 16 (.istore 4) 2 18 := ⟨by decide +kernel, rfl⟩
theorem d_Ward_fullIn_18 : Dc b_Ward_fullIn 18 (.iload 4) 2 20 := ⟨by decide +kernel, rfl⟩
theorem d_Ward_fullIn_20 : Dj b_Ward_fullIn 20 (.ifCond .gt) 25 23 := ⟨5, by decide +kernel, by decide, rfl⟩
theorem d_Ward_fullIn_23 : Dc b_Ward_fullIn 23 (.iconst 0) 1 24 := ⟨by decide +kernel, rfl⟩
theorem d_Ward_fullIn_24 : Dc b_Ward_fullIn 24 .ireturn 1 25 := ⟨by decide +kernel, rfl⟩
theorem d_Ward_fullIn_25 : Dc b_Ward_fullIn 25 (.aload_n 3) 1 26 := ⟨by decide +kernel, rfl⟩
theorem d_Ward_fullIn_26 : Dc b_Ward_fullIn 26 (.getfield 111) 3 29 := ⟨by decide +kernel, rfl⟩
theorem d_Ward_fullIn_29 : Dc b_Ward_fullIn 29 (.iload_n 2) 1 30 := ⟨by decide +kernel, rfl⟩
theorem d_Ward_fullIn_30 : Dc b_Ward_fullIn 30 .iaload 1 31 := ⟨by decide +kernel, rfl⟩
theorem d_Ward_fullIn_31 : Dc b_Ward_fullIn 31 (.istore 5) 2 33 := ⟨by decide +kernel, rfl⟩
theorem d_Ward_fullIn_33 : Dc b_Ward_fullIn 33 (.iload 5) 2 35 := ⟨by decide +kernel, rfl⟩
theorem d_Ward_fullIn_35 : Dj b_Ward_fullIn 35 (.ifCond .gt) 40 38 := ⟨5, by decide +kernel, by decide, rfl⟩
theorem d_Ward_fullIn_38 : Dc b_Ward_fullIn 38 (.iconst (-1)) 1 39 := ⟨by decide +kernel, rfl⟩
theorem d_Ward_fullIn_39 : Dc b_Ward_fullIn 39 .ireturn 1 40 := ⟨by decide +kernel, rfl⟩
theorem d_Ward_fullIn_40 : Dc b_Ward_fullIn 40 (.iload 4) 2 42 := ⟨by decide +kernel, rfl⟩
theorem d_Ward_fullIn_42 : Dc b_Ward_fullIn 42 (.iload 5) 2 44 := ⟨by decide +kernel, rfl⟩
theorem d_Ward_fullIn_44 : Dc b_Ward_fullIn 44 (.invokestatic 288) 3 47 := ⟨by decide +kernel, rfl⟩
theorem d_Ward_fullIn_47 : Dc b_Ward_fullIn 47 (.istore 6) 2 49 := ⟨by decide +kernel, rfl⟩
theorem d_Ward_fullIn_49 : Dc b_Ward_fullIn 49 (.iload 6) 2 51 := ⟨by decide +kernel, rfl⟩
theorem d_Ward_fullIn_51 : Dc b_Ward_fullIn 51 (.bipush 99) 2 53 := ⟨by decide +kernel, rfl⟩
theorem d_Ward_fullIn_53 : Dj b_Ward_fullIn 53 (.if_icmp .gt) 61 56 := ⟨8, by decide +kernel, by decide, rfl⟩
theorem d_Ward_fullIn_56 : Dc b_Ward_fullIn 56 (.iload 6) 2 58 := ⟨by decide +kernel, rfl⟩
theorem d_Ward_fullIn_58 : Dj b_Ward_fullIn 58 .goto 62 61 := ⟨4, by decide +kernel, by decide, rfl⟩
theorem d_Ward_fullIn_61 : Dc b_Ward_fullIn 61 (.iconst (-1)) 1 62 := ⟨by decide +kernel, rfl⟩
theorem d_Ward_fullIn_62 : Dc b_Ward_fullIn 62 .ireturn 1 63 := ⟨by decide +kernel, rfl⟩
abbrev b_Ward_habit : ByteArray := prog_1_method_3_code
def y_Ward_habit : MethodName := ⟨"BinWard", "habit", "(III)I"⟩
theorem d_Ward_habit_0 : Dc b_Ward_habit 0 (.aload_n 0) 1 1 := ⟨by decide +kernel, rfl⟩
theorem d_Ward_habit_1 : Dc b_Ward_habit 1 (.iload_n 1) 1 2 := ⟨by decide +kernel, rfl⟩
theorem d_Ward_habit_2 : Dc b_Ward_habit 2 (.invokevirtual 103) 3 5 := ⟨by decide +kernel, rfl⟩
theorem d_Ward_habit_5 : Dc b_Ward_habit 5 (.astore 4) 2 7 := ⟨by decide +kernel, rfl⟩
theorem d_Ward_habit_7 : Dc b_Ward_habit 7 (.iload_n 2) 1 8 := ⟨by decide +kernel, rfl⟩
theorem d_Ward_habit_8 : Dc b_Ward_habit 8 (.iconst 3) 1 9 := ⟨by decide +kernel, rfl⟩
theorem d_Ward_habit_9 : Dc b_Ward_habit 9 (.invokestatic 107) 3 12 := ⟨by decide +kernel, rfl⟩
theorem d_Ward_habit_12 : Dc b_Ward_habit 12 (.iload_n 3) 1 13 := ⟨by decide +kernel, rfl⟩
theorem d_Ward_habit_13 : Dc b_Ward_habit 13 (.iconst 0) 1 14 := ⟨by decide +kernel, rfl⟩
theorem d_Ward_habit_14 : Dc b_Ward_habit 14 (.bipush 9) 2 16 := ⟨by decide +kernel, rfl⟩
theorem d_Ward_habit_16 : Dc b_Ward_habit 16 (.invokestatic 82) 3 19 := ⟨by decide +kernel, rfl⟩
theorem d_Ward_habit_19 : Dc b_Ward_habit 19 (.aload 4) 2 21 := ⟨by decide +kernel, rfl⟩
theorem d_Ward_habit_21 : Dc b_Ward_habit 21 (.getfield 111) 3 24 := ⟨by decide +kernel, rfl⟩
theorem d_Ward_habit_24 : Dc b_Ward_habit 24 (.iload_n 2) 1 25 := ⟨by decide +kernel, rfl⟩
theorem d_Ward_habit_25 : Dc b_Ward_habit 25 .iaload 1 26 := ⟨by decide +kernel, rfl⟩
theorem d_Ward_habit_26 : Dc b_Ward_habit 26 (.istore 5) 2 28 := ⟨by decide +kernel, rfl⟩
theorem d_Ward_habit_28 : Dc b_Ward_habit 28 (.aload 4) 2 30 := ⟨by decide +kernel, rfl⟩
theorem d_Ward_habit_30 : Dc b_Ward_habit 30 (.getfield 111) 3 33 := ⟨by decide +kernel, rfl⟩
theorem d_Ward_habit_33 : Dc b_Ward_habit 33 (.iload_n 2) 1 34 := ⟨by decide +kernel, rfl⟩
theorem d_Ward_habit_34 : Dc b_Ward_habit 34 (.iload_n 3) 1 35 := ⟨by decide +kernel, rfl⟩
theorem d_Ward_habit_35 : Dc b_Ward_habit 35 .iastore 1 36 := ⟨by decide +kernel, rfl⟩
theorem d_Ward_habit_36 : Dc b_Ward_habit 36 (.iload 5) 2 38 := ⟨by decide +kernel, rfl⟩
theorem d_Ward_habit_38 : Dc b_Ward_habit 38 .ireturn 1 39 := ⟨by decide +kernel, rfl⟩
abbrev b_Ward_hand : ByteArray := prog_1_method_9_code
def y_Ward_hand : MethodName := ⟨"BinWard", "hand", "(I)I"⟩
theorem d_Ward_hand_0 : Dc b_Ward_hand 0 (.iload_n 1) 1 1 := ⟨by decide +kernel, rfl⟩
theorem d_Ward_hand_1 : Dc b_Ward_hand 1 (.iconst 0) 1 2 := ⟨by decide +kernel, rfl⟩
theorem d_Ward_hand_2 : Dc b_Ward_hand 2 (.bipush 50) 2 4 := ⟨by decide +kernel, rfl⟩
theorem d_Ward_hand_4 : Dc b_Ward_hand 4 (.invokestatic 82) 3 7 := ⟨by decide +kernel, rfl⟩
theorem d_Ward_hand_7 : Dc b_Ward_hand 7 (.aload_n 0) 1 8 := ⟨by decide +kernel, rfl⟩
theorem d_Ward_hand_8 : Dc b_Ward_hand 8 (.getfield 48) 3 11 := ⟨by decide +kernel, rfl⟩
theorem d_Ward_hand_11 : Dc b_Ward_hand 11 (.getfield 145) 3 14 := ⟨by decide +kernel, rfl⟩
theorem d_Ward_hand_14 : Dc b_Ward_hand 14 (.istore_n 2) 1 15 := ⟨by decide +kernel, rfl⟩
theorem d_Ward_hand_15 : Dc b_Ward_hand 15 (.aload_n 0) 1 16 := ⟨by decide +kernel, rfl⟩
theorem d_Ward_hand_16 : Dc b_Ward_hand 16 (.getfield 48) 3 19 := ⟨by decide +kernel, rfl⟩
theorem d_Ward_hand_19 : Dc b_Ward_hand 19 (.iload_n 1) 1 20 := ⟨by decide +kernel, rfl⟩
theorem d_Ward_hand_20 : Dc b_Ward_hand 20 (.putfield 145) 3 23 := ⟨by decide +kernel, rfl⟩
theorem d_Ward_hand_23 : Dc b_Ward_hand 23 (.iload_n 2) 1 24 := ⟨by decide +kernel, rfl⟩
theorem d_Ward_hand_24 : Dc b_Ward_hand 24 .ireturn 1 25 := ⟨by decide +kernel, rfl⟩
abbrev b_Ward_init : ByteArray := prog_1_method_1_code
def y_Ward_init : MethodName := ⟨"BinWard", "<init>", "()V"⟩
theorem d_Ward_init_0 : Dc b_Ward_init 0 (.aload_n 0) 1 1 := ⟨by decide +kernel, rfl⟩
theorem d_Ward_init_1 : Dc b_Ward_init 1 (.invokespecial 3) 3 4 := ⟨by decide +kernel, rfl⟩
theorem d_Ward_init_4 : Dc b_Ward_init 4 (.aload_n 0) 1 5 := ⟨by decide +kernel, rfl⟩
theorem d_Ward_init_5 : Dc b_Ward_init 5 (.bipush 6) 2 7 := ⟨by decide +kernel, rfl⟩
theorem d_Ward_init_7 : Dc b_Ward_init 7 (.anewarray 9) 3 10 := ⟨by decide +kernel, rfl⟩
theorem d_Ward_init_10 : Dc b_Ward_init 10 (.putfield 11) 3 13 := ⟨by decide +kernel, rfl⟩
theorem d_Ward_init_13 : Dc b_Ward_init 13 (.aload_n 0) 1 14 := ⟨by decide +kernel, rfl⟩
theorem d_Ward_init_14 : Dc b_Ward_init 14 (.bipush 6) 2 16 := ⟨by decide +kernel, rfl⟩
theorem d_Ward_init_16 : Dc b_Ward_init 16 (.anewarray 9) 3 19 := ⟨by decide +kernel, rfl⟩
theorem d_Ward_init_19 : Dc b_Ward_init 19 (.putfield 15) 3 22 := ⟨by decide +kernel, rfl⟩
theorem d_Ward_init_22 : Dc b_Ward_init 22 (.aload_n 0) 1 23 := ⟨by decide +kernel, rfl⟩
theorem d_Ward_init_23 : Dc b_Ward_init 23 (.iconst 3) 1 24 := ⟨by decide +kernel, rfl⟩
theorem d_Ward_init_24 : Dc b_Ward_init 24 (.anewarray 18) 3 27 := ⟨by decide +kernel, rfl⟩
theorem d_Ward_init_27 : Dc b_Ward_init 27 (.putfield 20) 3 30 := ⟨by decide +kernel, rfl⟩
theorem d_Ward_init_30 : Dc b_Ward_init 30 (.aload_n 0) 1 31 := ⟨by decide +kernel, rfl⟩
theorem d_Ward_init_31 : Dc b_Ward_init 31 (.new 24) 3 34 := ⟨by decide +kernel, rfl⟩
theorem d_Ward_init_34 : Dc b_Ward_init 34 .dup 1 35 := ⟨by decide +kernel, rfl⟩
theorem d_Ward_init_35 : Dc b_Ward_init 35 (.invokespecial 26) 3 38 := ⟨by decide +kernel, rfl⟩
theorem d_Ward_init_38 : Dc b_Ward_init 38 (.putfield 27) 3 41 := ⟨by decide +kernel, rfl⟩
theorem d_Ward_init_41 : Dc b_Ward_init 41 (.aload_n 0) 1 42 := ⟨by decide +kernel, rfl⟩
theorem d_Ward_init_42 : Dc b_Ward_init 42 (.new 31) 3 45 := ⟨by decide +kernel, rfl⟩
theorem d_Ward_init_45 : Dc b_Ward_init 45 .dup 1 46 := ⟨by decide +kernel, rfl⟩
theorem d_Ward_init_46 : Dc b_Ward_init 46 (.invokespecial 33) 3 49 := ⟨by decide +kernel, rfl⟩
theorem d_Ward_init_49 : Dc b_Ward_init 49 (.putfield 34) 3 52 := ⟨by decide +kernel, rfl⟩
theorem d_Ward_init_52 : Dc b_Ward_init 52 (.aload_n 0) 1 53 := ⟨by decide +kernel, rfl⟩
theorem d_Ward_init_53 : Dc b_Ward_init 53 (.new 38) 3 56 := ⟨by decide +kernel, rfl⟩
theorem d_Ward_init_56 : Dc b_Ward_init 56 .dup 1 57 := ⟨by decide +kernel, rfl⟩
theorem d_Ward_init_57 : Dc b_Ward_init 57 (.invokespecial 40) 3 60 := ⟨by decide +kernel, rfl⟩
theorem d_Ward_init_60 : Dc b_Ward_init 60 (.putfield 41) 3 63 := ⟨by decide +kernel, rfl⟩
theorem d_Ward_init_63 : Dc b_Ward_init 63 (.aload_n 0) 1 64 := ⟨by decide +kernel, rfl⟩
theorem d_Ward_init_64 : Dc b_Ward_init 64 (.new 45) 3 67 := ⟨by decide +kernel, rfl⟩
theorem d_Ward_init_67 : Dc b_Ward_init 67 .dup 1 68 := ⟨by decide +kernel, rfl⟩
theorem d_Ward_init_68 : Dc b_Ward_init 68 (.invokespecial 47) 3 71 := ⟨by decide +kernel, rfl⟩
theorem d_Ward_init_71 : Dc b_Ward_init 71 (.putfield 48) 3 74 := ⟨by decide +kernel, rfl⟩
theorem d_Ward_init_74 : Dc b_Ward_init 74 (.aload_n 0) 1 75 := ⟨by decide +kernel, rfl⟩
theorem d_Ward_init_75 : Dc b_Ward_init 75 (.new 52) 3 78 := ⟨by decide +kernel, rfl⟩
theorem d_Ward_init_78 : Dc b_Ward_init 78 .dup 1 79 := ⟨by decide +kernel, rfl⟩
theorem d_Ward_init_79 : Dc b_Ward_init 79 (.invokespecial 54) 3 82 := ⟨by decide +kernel, rfl⟩
theorem d_Ward_init_82 : Dc b_Ward_init 82 (.putfield 55) 3 85 := ⟨by decide +kernel, rfl⟩
theorem d_Ward_init_85 : Dc b_Ward_init 85 (.aload_n 0) 1 86 := ⟨by decide +kernel, rfl⟩
theorem d_Ward_init_86 : Dc b_Ward_init 86 (.new 59) 3 89 := ⟨by decide +kernel, rfl⟩
theorem d_Ward_init_89 : Dc b_Ward_init 89 .dup 1 90 := ⟨by decide +kernel, rfl⟩
theorem d_Ward_init_90 : Dc b_Ward_init 90 (.invokespecial 61) 3 93 := ⟨by decide +kernel, rfl⟩
theorem d_Ward_init_93 : Dc b_Ward_init 93 (.putfield 62) 3 96 := ⟨by decide +kernel, rfl⟩
theorem d_Ward_init_96 : Dc b_Ward_init 96 (.aload_n 0) 1 97 := ⟨by decide +kernel, rfl⟩
theorem d_Ward_init_97 : Dc b_Ward_init 97 (.new 66) 3 100 := ⟨by decide +kernel, rfl⟩
theorem d_Ward_init_100 : Dc b_Ward_init 100 .dup 1 101 := ⟨by decide +kernel, rfl⟩
theorem d_Ward_init_101 : Dc b_Ward_init 101 (.invokespecial 68) 3 104 := ⟨by decide +kernel, rfl⟩
theorem d_Ward_init_104 : Dc b_Ward_init 104 (.putfield 69) 3 107 := ⟨by decide +kernel, rfl⟩
theorem d_Ward_init_107 : Dc b_Ward_init 107 (.aload_n 0) 1 108 := ⟨by decide +kernel, rfl⟩
theorem d_Ward_init_108 : Dc b_Ward_init 108 (.new 73) 3 111 := ⟨by decide +kernel, rfl⟩
theorem d_Ward_init_111 : Dc b_Ward_init 111 .dup 1 112 := ⟨by decide +kernel, rfl⟩
theorem d_Ward_init_112 : Dc b_Ward_init 112 (.invokespecial 75) 3 115 := ⟨by decide +kernel, rfl⟩
theorem d_Ward_init_115 : Dc b_Ward_init 115 (.putfield 76) 3 118 := ⟨by decide +kernel, rfl⟩
theorem d_Ward_init_118 : Dc b_Ward_init 118 (.iconst 0) 1 119 := ⟨by decide +kernel, rfl⟩
theorem d_Ward_init_119 : Dc b_Ward_init 119 (.istore_n 1) 1 120 := ⟨by decide +kernel, rfl⟩
theorem d_Ward_init_120 : Dc b_Ward_init 120 (.iload_n 1) 1 121 := ⟨by decide +kernel, rfl⟩
theorem d_Ward_init_121 : Dc b_Ward_init 121 (.bipush 6) 2 123 := ⟨by decide +kernel, rfl⟩
theorem d_Ward_init_123 : Dj b_Ward_init 123 (.if_icmp .ge) 158 126 := ⟨35, by decide +kernel, by decide, rfl⟩
theorem d_Ward_init_126 : Dc b_Ward_init 126 (.aload_n 0) 1 127 := ⟨by decide +kernel, rfl⟩
theorem d_Ward_init_127 : Dc b_Ward_init 127 (.getfield 11) 3 130 := ⟨by decide +kernel, rfl⟩
theorem d_Ward_init_130 : Dc b_Ward_init 130 (.iload_n 1) 1 131 := ⟨by decide +kernel, rfl⟩
theorem d_Ward_init_131 : Dc b_Ward_init 131 (.new 9) 3 134 := ⟨by decide +kernel, rfl⟩
theorem d_Ward_init_134 : Dc b_Ward_init 134 .dup 1 135 := ⟨by decide +kernel, rfl⟩
theorem d_Ward_init_135 : Dc b_Ward_init 135 (.invokespecial 80) 3 138 := ⟨by decide +kernel, rfl⟩
theorem d_Ward_init_138 : Dc b_Ward_init 138 .aastore 1 139 := ⟨by decide +kernel, rfl⟩
theorem d_Ward_init_139 : Dc b_Ward_init 139 (.aload_n 0) 1 140 := ⟨by decide +kernel, rfl⟩
theorem d_Ward_init_140 : Dc b_Ward_init 140 (.getfield 15) 3 143 := ⟨by decide +kernel, rfl⟩
theorem d_Ward_init_143 : Dc b_Ward_init 143 (.iload_n 1) 1 144 := ⟨by decide +kernel, rfl⟩
theorem d_Ward_init_144 : Dc b_Ward_init 144 (.new 9) 3 147 := ⟨by decide +kernel, rfl⟩
theorem d_Ward_init_147 : Dc b_Ward_init 147 .dup 1 148 := ⟨by decide +kernel, rfl⟩
theorem d_Ward_init_148 : Dc b_Ward_init 148 (.invokespecial 80) 3 151 := ⟨by decide +kernel, rfl⟩
theorem d_Ward_init_151 : Dc b_Ward_init 151 .aastore 1 152 := ⟨by decide +kernel, rfl⟩
theorem d_Ward_init_152 : Dc b_Ward_init 152 (.iinc 1 1) 3 155 := ⟨by decide +kernel, rfl⟩
theorem d_Ward_init_155 : Dj b_Ward_init 155 .goto 120 158 := ⟨-35, by decide +kernel, by decide, rfl⟩
theorem d_Ward_init_158 : Dc b_Ward_init 158 (.iconst 0) 1 159 := ⟨by decide +kernel, rfl⟩
theorem d_Ward_init_159 : Dc b_Ward_init 159 (.istore_n 1) 1 160 := ⟨by decide +kernel, rfl⟩
theorem d_Ward_init_160 : Dc b_Ward_init 160 (.iload_n 1) 1 161 := ⟨by decide +kernel, rfl⟩
theorem d_Ward_init_161 : Dc b_Ward_init 161 (.iconst 3) 1 162 := ⟨by decide +kernel, rfl⟩
theorem d_Ward_init_162 : Dj b_Ward_init 162 (.if_icmp .ge) 184 165 := ⟨22, by decide +kernel, by decide, rfl⟩
theorem d_Ward_init_165 : Dc b_Ward_init 165 (.aload_n 0) 1 166 := ⟨by decide +kernel, rfl⟩
theorem d_Ward_init_166 : Dc b_Ward_init 166 (.getfield 20) 3 169 := ⟨by decide +kernel, rfl⟩
theorem d_Ward_init_169 : Dc b_Ward_init 169 (.iload_n 1) 1 170 := ⟨by decide +kernel, rfl⟩
theorem d_Ward_init_170 : Dc b_Ward_init 170 (.new 18) 3 173 := ⟨by decide +kernel, rfl⟩
theorem d_Ward_init_173 : Dc b_Ward_init 173 .dup 1 174 := ⟨by decide +kernel, rfl⟩
theorem d_Ward_init_174 : Dc b_Ward_init 174 (.invokespecial 81) 3 177 := ⟨by decide +kernel, rfl⟩
theorem d_Ward_init_177 : Dc b_Ward_init 177 .aastore 1 178 := ⟨by decide +kernel, rfl⟩
theorem d_Ward_init_178 : Dc b_Ward_init 178 (.iinc 1 1) 3 181 := ⟨by decide +kernel, rfl⟩
theorem d_Ward_init_181 : Dj b_Ward_init 181 .goto 160 184 := ⟨-21, by decide +kernel, by decide, rfl⟩
theorem d_Ward_init_184 : Dc b_Ward_init 184 .return_ 1 185 := ⟨by decide +kernel, rfl⟩
abbrev b_Ward_litterIn : ByteArray := prog_1_method_36_code
def y_Ward_litterIn : MethodName := ⟨"BinWard", "litterIn", "([LBinWard$Street;)I"⟩
theorem d_Ward_litterIn_0 : Dc b_Ward_litterIn 0 (.iconst 0) 1 1 := ⟨by decide +kernel, rfl⟩
theorem d_Ward_litterIn_1 : Dc b_Ward_litterIn 1 (.istore_n 2) 1 2 := ⟨by decide +kernel, rfl⟩
theorem d_Ward_litterIn_2 : Dc b_Ward_litterIn 2 (.iconst 0) 1 3 := ⟨by decide +kernel, rfl⟩
theorem d_Ward_litterIn_3 : Dc b_Ward_litterIn 3 (.istore_n 3) 1 4 := ⟨by decide +kernel, rfl⟩
theorem d_Ward_litterIn_4 : Dc b_Ward_litterIn 4 (.iload_n 3) 1 5 := ⟨by decide +kernel, rfl⟩
theorem d_Ward_litterIn_5 : Dc b_Ward_litterIn 5 (.aload_n 0) 1 6 := ⟨by decide +kernel, rfl⟩
theorem d_Ward_litterIn_6 : Dc b_Ward_litterIn 6 (.getfield 86) 3 9 := ⟨by decide +kernel, rfl⟩
theorem d_Ward_litterIn_9 : Dj b_Ward_litterIn 9 (.if_icmp .ge) 27 12 := ⟨18, by decide +kernel, by decide, rfl⟩
theorem d_Ward_litterIn_12 : Dc b_Ward_litterIn 12 (.iload_n 2) 1 13 := ⟨by decide +kernel, rfl⟩
theorem d_Ward_litterIn_13 : Dc b_Ward_litterIn 13 (.aload_n 1) 1 14 := ⟨by decide +kernel, rfl⟩
theorem d_Ward_litterIn_14 : Dc b_Ward_litterIn 14 (.iload_n 3) 1 15 := ⟨by decide +kernel, rfl⟩
theorem d_Ward_litterIn_15 : Dc b_Ward_litterIn 15 .aaload 1 16 := ⟨by decide +kernel, rfl⟩
theorem d_Ward_litterIn_16 : Dc b_Ward_litterIn 16 (.getfield 181) 3 19 := ⟨by decide +kernel, rfl⟩
theorem d_Ward_litterIn_19 : Dc b_Ward_litterIn 19 .iadd 1 20 := ⟨by decide +kernel, rfl⟩
theorem d_Ward_litterIn_20 : Dc b_Ward_litterIn 20 (.istore_n 2) 1 21 := ⟨by decide +kernel, rfl⟩
theorem d_Ward_litterIn_21 : Dc b_Ward_litterIn 21 (.iinc 3 1) 3 24 := ⟨by decide +kernel, rfl⟩
theorem d_Ward_litterIn_24 : Dj b_Ward_litterIn 24 .goto 4 27 := ⟨-20, by decide +kernel, by decide, rfl⟩
theorem d_Ward_litterIn_27 : Dc b_Ward_litterIn 27 (.iload_n 2) 1 28 := ⟨by decide +kernel, rfl⟩
theorem d_Ward_litterIn_28 : Dc b_Ward_litterIn 28 .ireturn 1 29 := ⟨by decide +kernel, rfl⟩
abbrev b_Ward_liveOneDay : ByteArray := prog_1_method_29_code
def y_Ward_liveOneDay : MethodName := ⟨"BinWard", "liveOneDay", "()I"⟩
theorem d_Ward_liveOneDay_0 : Dc b_Ward_liveOneDay 0 (.aload_n 0) 1 1 := ⟨by decide +kernel, rfl⟩
theorem d_Ward_liveOneDay_1 : Dc b_Ward_liveOneDay 1 .dup 1 2 := ⟨by decide +kernel, rfl⟩
theorem d_Ward_liveOneDay_2 : Dc b_Ward_liveOneDay 2 (.getfield 187) 3 5 := ⟨by decide +kernel, rfl⟩
theorem d_Ward_liveOneDay_5 : Dc b_Ward_liveOneDay 5 (.iconst 1) 1 6 := ⟨by decide +kernel, rfl⟩
theorem d_Ward_liveOneDay_6 : Dc b_Ward_liveOneDay 6 .iadd 1 7 := ⟨by decide +kernel, rfl⟩
theorem d_Ward_liveOneDay_7 : Dc b_Ward_liveOneDay 7 (.putfield 187) 3 10 := ⟨by decide +kernel, rfl⟩
theorem d_Ward_liveOneDay_10 : Dc b_Ward_liveOneDay 10 (.aload_n 0) 1 11 := ⟨by decide +kernel, rfl⟩
theorem d_Ward_liveOneDay_11 : Dc b_Ward_liveOneDay 11 (.getfield 41) 3 14 := ⟨by decide +kernel, rfl⟩
theorem d_Ward_liveOneDay_14 : Dc b_Ward_liveOneDay 14 (.aload_n 0) 1 15 := ⟨by decide +kernel, rfl⟩
theorem d_Ward_liveOneDay_15 : Dc b_Ward_liveOneDay 15 (.getfield 187) 3 18 := ⟨by decide +kernel, rfl⟩
theorem d_Ward_liveOneDay_18 : Dc b_Ward_liveOneDay 18 (.invokevirtual 351) 3 21 := ⟨by decide +kernel, rfl⟩
theorem d_Ward_liveOneDay_21 : Dc b_Ward_liveOneDay 21 (.aload_n 0) 1 22 := ⟨by decide +kernel, rfl⟩
theorem d_Ward_liveOneDay_22 : Dc b_Ward_liveOneDay 22 (.aload_n 0) 1 23 := ⟨by decide +kernel, rfl⟩
theorem d_Ward_liveOneDay_23 : Dc b_Ward_liveOneDay 23 (.getfield 11) 3 26 := ⟨by decide +kernel, rfl⟩
theorem d_Ward_liveOneDay_26 : Dc b_Ward_liveOneDay 26 (.invokevirtual 306) 3 29 := ⟨by decide +kernel, rfl⟩
theorem d_Ward_liveOneDay_29 : Dc b_Ward_liveOneDay 29 (.aload_n 0) 1 30 := ⟨by decide +kernel, rfl⟩
theorem d_Ward_liveOneDay_30 : Dc b_Ward_liveOneDay 30 (.invokevirtual 355) 3 33 := ⟨by decide +kernel, rfl⟩
theorem d_Ward_liveOneDay_33 : Dc b_Ward_liveOneDay 33 (.istore_n 1) 1 34 := ⟨by decide +kernel, rfl⟩
theorem d_Ward_liveOneDay_34 : Dc b_Ward_liveOneDay 34 (.aload_n 0) 1 35 := ⟨by decide +kernel, rfl⟩
theorem d_Ward_liveOneDay_35 : Dc b_Ward_liveOneDay 35 (.invokevirtual 358) 3 38 := ⟨by decide +kernel, rfl⟩
theorem d_Ward_liveOneDay_38 : Dc b_Ward_liveOneDay 38 (.aload_n 0) 1 39 := ⟨by decide +kernel, rfl⟩
theorem d_Ward_liveOneDay_39 : Dc b_Ward_liveOneDay 39 (.getfield 69) 3 42 := ⟨by decide +kernel, rfl⟩
theorem d_Ward_liveOneDay_42 : Dc b_Ward_liveOneDay 42 (.invokevirtual 361) 3 45 := ⟨by decide +kernel, rfl⟩
theorem d_Ward_liveOneDay_45 : Dc b_Ward_liveOneDay 45 (.aload_n 0) 1 46 := ⟨by decide +kernel, rfl⟩
theorem d_Ward_liveOneDay_46 : Dc b_Ward_liveOneDay 46 (.getfield 76) 3 49 := ⟨by decide +kernel, rfl⟩
theorem d_Ward_liveOneDay_49 : Dc b_Ward_liveOneDay 49 (.invokevirtual 364) 3 52 := ⟨by decide +kernel, rfl⟩
theorem d_Ward_liveOneDay_52 : Dc b_Ward_liveOneDay 52 (.iload_n 1) 1 53 := ⟨by decide +kernel, rfl⟩
theorem d_Ward_liveOneDay_53 : Dc b_Ward_liveOneDay 53 .ireturn 1 54 := ⟨by decide +kernel, rfl⟩
abbrev b_Ward_lorry : ByteArray := prog_1_method_5_code
def y_Ward_lorry : MethodName := ⟨"BinWard", "lorry", "(III)I"⟩
theorem d_Ward_lorry_0 : Dc b_Ward_lorry 0 (.iload_n 1) 1 1 := ⟨by decide +kernel, rfl⟩
theorem d_Ward_lorry_1 : Dc b_Ward_lorry 1 (.bipush 10) 2 3 := ⟨by decide +kernel, rfl⟩
theorem d_Ward_lorry_3 : Dc b_Ward_lorry 3 (.bipush 120) 2 5 := ⟨by decide +kernel, rfl⟩
theorem d_Ward_lorry_5 : Dc b_Ward_lorry 5 (.invokestatic 82) 3 8 := ⟨by decide +kernel, rfl⟩
theorem d_Ward_lorry_8 : Dc b_Ward_lorry 8 (.iload_n 2) 1 9 := ⟨by decide +kernel, rfl⟩
theorem d_Ward_lorry_9 : Dc b_Ward_lorry 9 (.iconst 0) 1 10 := ⟨by decide +kernel, rfl⟩
theorem d_Ward_lorry_10 : Dc b_Ward_lorry 10 (.iconst 2) 1 11 := ⟨by decide +kernel, rfl⟩
theorem d_Ward_lorry_11 : Dc b_Ward_lorry 11 (.invokestatic 82) 3 14 := ⟨by decide +kernel, rfl⟩
theorem d_Ward_lorry_14 : Dc b_Ward_lorry 14 (.iload_n 3) 1 15 := ⟨by decide +kernel, rfl⟩
theorem d_Ward_lorry_15 : Dc b_Ward_lorry 15 (.iconst 0) 1 16 := ⟨by decide +kernel, rfl⟩
theorem d_Ward_lorry_16 : Dc b_Ward_lorry 16 (.iconst 2) 1 17 := ⟨by decide +kernel, rfl⟩
theorem d_Ward_lorry_17 : Dc b_Ward_lorry 17 (.invokestatic 82) 3 20 := ⟨by decide +kernel, rfl⟩
theorem d_Ward_lorry_20 : Dc b_Ward_lorry 20 (.aload_n 0) 1 21 := ⟨by decide +kernel, rfl⟩
theorem d_Ward_lorry_21 : Dc b_Ward_lorry 21 (.getfield 115) 3 24 := ⟨by decide +kernel, rfl⟩
theorem d_Ward_lorry_24 : Dc b_Ward_lorry 24 (.iconst 3) 1 25 := ⟨by decide +kernel, rfl⟩
theorem d_Ward_lorry_25 : Dj b_Ward_lorry 25 (.if_icmp .lt) 38 28 := ⟨13, by decide +kernel, by decide, rfl⟩
theorem d_Ward_lorry_28 : Dc b_Ward_lorry 28 (.new 90) 3 31 := ⟨by decide +kernel, rfl⟩
theorem d_Ward_lorry_31 : Dc b_Ward_lorry 31 .dup 1 32 := ⟨by decide +kernel, rfl⟩
theorem d_Ward_lorry_32 : Dc b_Ward_lorry 32 (.ldc 118) 2 34 := ⟨by decide +kernel, rfl⟩
theorem d_Ward_lorry_34 : Dc b_Ward_lorry 34 (.invokespecial 94) 3 37 := ⟨by decide +kernel, rfl⟩
theorem d_Ward_lorry_37 : Dc b_Ward_lorry 37 .athrow 1 38 := ⟨by decide +kernel, rfl⟩
theorem d_Ward_lorry_38 : Dc b_Ward_lorry 38 (.aload_n 0) 1 39 := ⟨by decide +kernel, rfl⟩
theorem d_Ward_lorry_39 : Dc b_Ward_lorry 39 (.getfield 20) 3 42 := ⟨by decide +kernel, rfl⟩
theorem d_Ward_lorry_42 : Dc b_Ward_lorry 42 (.aload_n 0) 1 43 := ⟨by decide +kernel, rfl⟩
theorem d_Ward_lorry_43 : Dc b_Ward_lorry 43 (.getfield 115) 3 46 := ⟨by decide +kernel, rfl⟩
theorem d_Ward_lorry_46 : Dc b_Ward_lorry 46 .aaload 1 47 := ⟨by decide +kernel, rfl⟩
theorem d_Ward_lorry_47 : Dc b_Ward_lorry 47 (.astore 4) 2 49 := ⟨by decide +kernel, rfl⟩
theorem d_Ward_lorry_49 : Dc b_Ward_lorry 49 (.aload 4) 2 51 := ⟨by decide +kernel, rfl⟩
theorem d_Ward_lorry_51 : Dc b_Ward_lorry 51 (.iload_n 1) 1 52 := ⟨by decide +kernel, rfl⟩
theorem d_Ward_lorry_52 : Dc b_Ward_lorry 52 (.putfield 120) 3 55 := ⟨by decide +kernel, rfl⟩
theorem d_Ward_lorry_55 : Dc b_Ward_lorry 55 (.aload 4) 2 57 := ⟨by decide +kernel, rfl⟩
theorem d_Ward_lorry_57 : Dc b_Ward_lorry 57 (.getfield 123) 3 60 := ⟨by decide +kernel, rfl⟩
theorem d_Ward_lorry_60 : Dc b_Ward_lorry 60 (.iconst 0) 1 61 := ⟨by decide +kernel, rfl⟩
theorem d_Ward_lorry_61 : Dc b_Ward_lorry 61 (.iload_n 2) 1 62 := ⟨by decide +kernel, rfl⟩
theorem d_Ward_lorry_62 : Dc b_Ward_lorry 62 .iastore 1 63 := ⟨by decide +kernel, rfl⟩
theorem d_Ward_lorry_63 : Dc b_Ward_lorry 63 (.aload 4) 2 65 := ⟨by decide +kernel, rfl⟩
theorem d_Ward_lorry_65 : Dc b_Ward_lorry 65 (.getfield 123) 3 68 := ⟨by decide +kernel, rfl⟩
theorem d_Ward_lorry_68 : Dc b_Ward_lorry 68 (.iconst 1) 1 69 := ⟨by decide +kernel, rfl⟩
theorem d_Ward_lorry_69 : Dc b_Ward_lorry 69 (.iload_n 3) 1 70 := ⟨by decide +kernel, rfl⟩
theorem d_Ward_lorry_70 : Dc b_Ward_lorry 70 .iastore 1 71 := ⟨by decide +kernel, rfl⟩
theorem d_Ward_lorry_71 : Dc b_Ward_lorry 71 (.aload_n 0) 1 72 := ⟨by decide +kernel, rfl⟩
theorem d_Ward_lorry_72 : Dc b_Ward_lorry 72 .dup 1 73 := ⟨by decide +kernel, rfl⟩
theorem d_Ward_lorry_73 : Dc b_Ward_lorry 73 (.getfield 115) 3 76 := ⟨by decide +kernel, rfl⟩
theorem d_Ward_lorry_76 : Dc b_Ward_lorry 76 (.iconst 1) 1 77 := ⟨by decide +kernel, rfl⟩
theorem d_Ward_lorry_77 : Dc b_Ward_lorry 77 .iadd 1 78 := ⟨by decide +kernel, rfl⟩
theorem d_Ward_lorry_78 : Dc b_Ward_lorry 78 (.putfield 115) 3 81 := ⟨by decide +kernel, rfl⟩
theorem d_Ward_lorry_81 : Dc b_Ward_lorry 81 (.aload_n 0) 1 82 := ⟨by decide +kernel, rfl⟩
theorem d_Ward_lorry_82 : Dc b_Ward_lorry 82 (.getfield 115) 3 85 := ⟨by decide +kernel, rfl⟩
theorem d_Ward_lorry_85 : Dc b_Ward_lorry 85 (.iconst 1) 1 86 := ⟨by decide +kernel, rfl⟩
theorem d_Ward_lorry_86 : Dc b_Ward_lorry 86 .isub 1 87 := ⟨by decide +kernel, rfl⟩
theorem d_Ward_lorry_87 : Dc b_Ward_lorry 87 .ireturn 1 88 := ⟨by decide +kernel, rfl⟩
abbrev b_Ward_lorryAt : ByteArray := prog_1_method_40_code
def y_Ward_lorryAt : MethodName := ⟨"BinWard", "lorryAt", "(I)LBinWard$Lorry;"⟩
theorem d_Ward_lorryAt_0 : Dc b_Ward_lorryAt 0 (.iload_n 1) 1 1 := ⟨by decide +kernel, rfl⟩
theorem d_Ward_lorryAt_1 : Dc b_Ward_lorryAt 1 (.aload_n 0) 1 2 := ⟨by decide +kernel, rfl⟩
theorem d_Ward_lorryAt_2 : Dc b_Ward_lorryAt 2 (.getfield 115) 3 5 := ⟨by decide +kernel, rfl⟩
theorem d_Ward_lorryAt_5 : Dc b_Ward_lorryAt 5 (.invokestatic 107) 3 8 := ⟨by decide +kernel, rfl⟩
theorem d_Ward_lorryAt_8 : Dc b_Ward_lorryAt 8 (.aload_n 0) 1 9 := ⟨by decide +kernel, rfl⟩
theorem d_Ward_lorryAt_9 : Dc b_Ward_lorryAt 9 (.getfield 20) 3 12 := ⟨by decide +kernel, rfl⟩
theorem d_Ward_lorryAt_12 : Dc b_Ward_lorryAt 12 (.iload_n 1) 1 13 := ⟨by decide +kernel, rfl⟩
theorem d_Ward_lorryAt_13 : Dc b_Ward_lorryAt 13 .aaload 1 14 := ⟨by decide +kernel, rfl⟩
theorem d_Ward_lorryAt_14 : Dc b_Ward_lorryAt 14 .areturn 1 15 := ⟨by decide +kernel, rfl⟩
abbrev b_Ward_many : ByteArray := prog_1_method_19_code
def y_Ward_many : MethodName := ⟨"BinWard", "many", "(I)I"⟩
theorem d_Ward_many_0 : Dc b_Ward_many 0 (.iload_n 1) 1 1 := ⟨by decide +kernel, rfl⟩
theorem d_Ward_many_1 : Dc b_Ward_many 1 (.iconst 0) 1 2 := ⟨by decide +kernel, rfl⟩
theorem d_Ward_many_2 : Dc b_Ward_many 2 (.bipush 17) 2 4 := ⟨by decide +kernel, rfl⟩
theorem d_Ward_many_4 : Dc b_Ward_many 4 (.invokestatic 82) 3 7 := ⟨by decide +kernel, rfl⟩
theorem d_Ward_many_7 : Dc b_Ward_many 7 (.iload_n 1) 1 8 := ⟨by decide +kernel, rfl⟩
theorem d_Ward_many_8 : Dc b_Ward_many 8 (.tableswitch 220 0 16 #[84, 89, 97, 105, 113, 122, 130, 138, 146, 154, 162, 170, 178, 186, 194, 202, 215]) 84 92 := ⟨by decide +kernel, rfl⟩
theorem d_Ward_many_92 : Dc b_Ward_many 92 (.aload_n 0) 1 93 := ⟨by decide +kernel, rfl⟩
theorem d_Ward_many_93 : Dc b_Ward_many 93 (.getfield 187) 3 96 := ⟨by decide +kernel, rfl⟩
theorem d_Ward_many_96 : Dc b_Ward_many 96 .ireturn 1 97 := ⟨by decide +kernel, rfl⟩
theorem d_Ward_many_97 : Dc b_Ward_many 97 (.aload_n 0) 1 98 := ⟨by decide +kernel, rfl⟩
theorem d_Ward_many_98 : Dc b_Ward_many 98 (.getfield 55) 3 101 := ⟨by decide +kernel, rfl⟩
theorem d_Ward_many_101 : Dc b_Ward_many 101 (.getfield 236) 3 104 := ⟨by decide +kernel, rfl⟩
theorem d_Ward_many_104 : Dc b_Ward_many 104 .ireturn 1 105 := ⟨by decide +kernel, rfl⟩
theorem d_Ward_many_105 : Dc b_Ward_many 105 (.aload_n 0) 1 106 := ⟨by decide +kernel, rfl⟩
theorem d_Ward_many_106 : Dc b_Ward_many 106 (.getfield 55) 3 109 := ⟨by decide +kernel, rfl⟩
theorem d_Ward_many_109 : Dc b_Ward_many 109 (.getfield 237) 3 112 := ⟨by decide +kernel, rfl⟩
theorem d_Ward_many_112 : Dc b_Ward_many 112 .ireturn 1 113 := ⟨by decide +kernel, rfl⟩
theorem d_Ward_many_113 : Dc b_Ward_many 113 (.aload_n 0) 1 114 := ⟨by decide +kernel, rfl⟩
theorem d_Ward_many_114 : Dc b_Ward_many 114 (.getfield 55) 3 117 := ⟨by decide +kernel, rfl⟩
theorem d_Ward_many_117 : Dc b_Ward_many 117 (.getfield 238) 3 120 := ⟨by decide +kernel, rfl⟩
theorem d_Ward_many_120 : Dc b_Ward_many 120 .ireturn 1 121 := ⟨by decide +kernel, rfl⟩
theorem d_Ward_many_121 : Dc b_Ward_many 121 (.aload_n 0) 1 122 := ⟨by decide +kernel, rfl⟩
theorem d_Ward_many_122 : Dc b_Ward_many 122 (.getfield 55) 3 125 := ⟨by decide +kernel, rfl⟩
theorem d_Ward_many_125 : Dc b_Ward_many 125 (.iconst 0) 1 126 := ⟨by decide +kernel, rfl⟩
theorem d_Ward_many_126 : Dc b_Ward_many 126 (.invokevirtual 241) 3 129 := ⟨by decide +kernel, rfl⟩
theorem d_Ward_many_129 : Dc b_Ward_many 129 .ireturn 1 130 := ⟨by decide +kernel, rfl⟩
theorem d_Ward_many_130 : Dc b_Ward_many 130 (.aload_n 0) 1 131 := ⟨by decide +kernel, rfl⟩
theorem d_Ward_many_131 : Dc b_Ward_many 131 (.getfield 69) 3 134 := ⟨by decide +kernel, rfl⟩
theorem d_Ward_many_134 : Dc b_Ward_many 134 (.getfield 244) 3 137 := ⟨by decide +kernel, rfl⟩
theorem d_Ward_many_137 : Dc b_Ward_many 137 .ireturn 1 138 := ⟨by decide +kernel, rfl⟩
theorem d_Ward_many_138 : Dc b_Ward_many 138 (.aload_n 0) 1 139 := ⟨by decide +kernel, rfl⟩
theorem d_Ward_many_139 : Dc b_Ward_many 139 (.getfield 69) 3 142 := ⟨by decide +kernel, rfl⟩
theorem d_Ward_many_142 : Dc b_Ward_many 142 (.getfield 245) 3 145 := ⟨by decide +kernel, rfl⟩
theorem d_Ward_many_145 : Dc b_Ward_many 145 .ireturn 1 146 := ⟨by decide +kernel, rfl⟩
theorem d_Ward_many_146 : Dc b_Ward_many 146 (.aload_n 0) 1 147 := ⟨by decide +kernel, rfl⟩
theorem d_Ward_many_147 : Dc b_Ward_many 147 (.getfield 69) 3 150 := ⟨by decide +kernel, rfl⟩
theorem d_Ward_many_150 : Dc b_Ward_many 150 (.getfield 246) 3 153 := ⟨by decide +kernel, rfl⟩
theorem d_Ward_many_153 : Dc b_Ward_many 153 .ireturn 1 154 := ⟨by decide +kernel, rfl⟩
theorem d_Ward_many_154 : Dc b_Ward_many 154 (.aload_n 0) 1 155 := ⟨by decide +kernel, rfl⟩
theorem d_Ward_many_155 : Dc b_Ward_many 155 (.getfield 69) 3 158 := ⟨by decide +kernel, rfl⟩
theorem d_Ward_many_158 : Dc b_Ward_many 158 (.getfield 249) 3 161 := ⟨by decide +kernel, rfl⟩
theorem d_Ward_many_161 : Dc b_Ward_many 161 .ireturn 1 162 := ⟨by decide +kernel, rfl⟩
theorem d_Ward_many_162 : Dc b_Ward_many 162 (.aload_n 0) 1 163 := ⟨by decide +kernel, rfl⟩
theorem d_Ward_many_163 : Dc b_Ward_many 163 (.getfield 76) 3 166 := ⟨by decide +kernel, rfl⟩
theorem d_Ward_many_166 : Dc b_Ward_many 166 (.getfield 252) 3 169 := ⟨by decide +kernel, rfl⟩
theorem d_Ward_many_169 : Dc b_Ward_many 169 .ireturn 1 170 := ⟨by decide +kernel, rfl⟩
theorem d_Ward_many_170 : Dc b_Ward_many 170 (.aload_n 0) 1 171 := ⟨by decide +kernel, rfl⟩
theorem d_Ward_many_171 : Dc b_Ward_many 171 (.getfield 76) 3 174 := ⟨by decide +kernel, rfl⟩
theorem d_Ward_many_174 : Dc b_Ward_many 174 (.getfield 254) 3 177 := ⟨by decide +kernel, rfl⟩
theorem d_Ward_many_177 : Dc b_Ward_many 177 .ireturn 1 178 := ⟨by decide +kernel, rfl⟩
theorem d_Ward_many_178 : Dc b_Ward_many 178 (.aload_n 0) 1 179 := ⟨by decide +kernel, rfl⟩
theorem d_Ward_many_179 : Dc b_Ward_many 179 (.getfield 76) 3 182 := ⟨by decide +kernel, rfl⟩
theorem d_Ward_many_182 : Dc b_Ward_many 182 (.getfield 257) 3 185 := ⟨by decide +kernel, rfl⟩
theorem d_Ward_many_185 : Dc b_Ward_many 185 .ireturn 1 186 := ⟨by decide +kernel, rfl⟩
theorem d_Ward_many_186 : Dc b_Ward_many 186 (.aload_n 0) 1 187 := ⟨by decide +kernel, rfl⟩
theorem d_Ward_many_187 : Dc b_Ward_many 187 (.getfield 62) 3 190 := ⟨by decide +kernel, rfl⟩
theorem d_Ward_many_190 : Dc b_Ward_many 190 (.getfield 260) 3 193 := ⟨by decide +kernel, rfl⟩
theorem d_Ward_many_193 : Dc b_Ward_many 193 .ireturn 1 194 := ⟨by decide +kernel, rfl⟩
theorem d_Ward_many_194 : Dc b_Ward_many 194 (.aload_n 0) 1 195 := ⟨by decide +kernel, rfl⟩
theorem d_Ward_many_195 : Dc b_Ward_many 195 (.getfield 62) 3 198 := ⟨by decide +kernel, rfl⟩
theorem d_Ward_many_198 : Dc b_Ward_many 198 (.getfield 263) 3 201 := ⟨by decide +kernel, rfl⟩
theorem d_Ward_many_201 : Dc b_Ward_many 201 .ireturn 1 202 := ⟨by decide +kernel, rfl⟩
theorem d_Ward_many_202 : Dc b_Ward_many 202 (.aload_n 0) 1 203 := ⟨by decide +kernel, rfl⟩
theorem d_Ward_many_203 : Dc b_Ward_many 203 (.getfield 62) 3 206 := ⟨by decide +kernel, rfl⟩
theorem d_Ward_many_206 : Dc b_Ward_many 206 (.getfield 266) 3 209 := ⟨by decide +kernel, rfl⟩
theorem d_Ward_many_209 : Dc b_Ward_many 209 .ireturn 1 210 := ⟨by decide +kernel, rfl⟩
theorem d_Ward_many_210 : Dc b_Ward_many 210 (.aload_n 0) 1 211 := ⟨by decide +kernel, rfl⟩
theorem d_Ward_many_211 : Dc b_Ward_many 211 (.getfield 169) 3 214 := ⟨by decide +kernel, rfl⟩
theorem d_Ward_many_214 : Dc b_Ward_many 214 (.aload_n 0) 1 215 := ⟨by decide +kernel, rfl⟩
theorem d_Ward_many_215 : Dc b_Ward_many 215 (.getfield 76) 3 218 := ⟨by decide +kernel, rfl⟩
theorem d_Ward_many_218 : Dc b_Ward_many 218 (.getfield 269) 3 221 := ⟨by decide +kernel, rfl⟩
theorem d_Ward_many_221 : Dc b_Ward_many 221 .isub 1 222 := ⟨by decide +kernel, rfl⟩
theorem d_Ward_many_222 : Dc b_Ward_many 222 .ireturn 1 223 := ⟨by decide +kernel, rfl⟩
theorem d_Ward_many_223 : Dc b_Ward_many 223 (.aload_n 0) 1 224 := ⟨by decide +kernel, rfl⟩
theorem d_Ward_many_224 : Dc b_Ward_many 224 (.invokevirtual 272) 3 227 := ⟨by decide +kernel, rfl⟩
theorem d_Ward_many_227 : Dc b_Ward_many 227 .ireturn 1 228 := ⟨by decide +kernel, rfl⟩
theorem d_Ward_many_228 : Dc b_Ward_many 228 (.aload_n 0) 1 229 := ⟨by decide +kernel, rfl⟩
theorem d_Ward_many_229 : Dc b_Ward_many 229 (.aload_n 0) 1 230 := ⟨by decide +kernel, rfl⟩
theorem d_Ward_many_230 : Dc b_Ward_many 230 (.getfield 11) 3 233 := ⟨by decide +kernel, rfl⟩
theorem d_Ward_many_233 : Dc b_Ward_many 233 (.invokevirtual 275) 3 236 := ⟨by decide +kernel, rfl⟩
theorem d_Ward_many_236 : Dc b_Ward_many 236 .ireturn 1 237 := ⟨by decide +kernel, rfl⟩
abbrev b_Ward_meanDirt : ByteArray := prog_1_method_21_code
def y_Ward_meanDirt : MethodName := ⟨"BinWard", "meanDirt", "()D"⟩
theorem d_Ward_meanDirt_0 : Dc b_Ward_meanDirt 0 (.aload_n 0) 1 1 := ⟨by decide +kernel, rfl⟩
theorem d_Ward_meanDirt_1 : Dc b_Ward_meanDirt 1 (.getfield 55) 3 4 := ⟨by decide +kernel, rfl⟩
theorem d_Ward_meanDirt_4 : Dc b_Ward_meanDirt 4 (.getfield 238) 3 7 := ⟨by decide +kernel, rfl⟩
theorem d_Ward_meanDirt_7 : Dc b_Ward_meanDirt 7 (.aload_n 0) 1 8 := ⟨by decide +kernel, rfl⟩
theorem d_Ward_meanDirt_8 : Dc b_Ward_meanDirt 8 (.getfield 55) 3 11 := ⟨by decide +kernel, rfl⟩
theorem d_Ward_meanDirt_11 : Dc b_Ward_meanDirt 11 (.iconst 3) 1 12 := ⟨by decide +kernel, rfl⟩
theorem d_Ward_meanDirt_12 : Dc b_Ward_meanDirt 12 (.invokevirtual 241) 3 15 := ⟨by decide +kernel, rfl⟩
theorem d_Ward_meanDirt_15 : Dc b_Ward_meanDirt 15 .isub 1 16 := ⟨by decide +kernel, rfl⟩
theorem d_Ward_meanDirt_16 : Dc b_Ward_meanDirt 16 (.istore_n 1) 1 17 := ⟨by decide +kernel, rfl⟩
theorem d_Ward_meanDirt_17 : Dc b_Ward_meanDirt 17 (.iload_n 1) 1 18 := ⟨by decide +kernel, rfl⟩
theorem d_Ward_meanDirt_18 : Dj b_Ward_meanDirt 18 (.ifCond .gt) 23 21 := ⟨5, by decide +kernel, by decide, rfl⟩
theorem d_Ward_meanDirt_21 : Dc b_Ward_meanDirt 21 (.dconst 0) 1 22 := ⟨by decide +kernel, rfl⟩
theorem d_Ward_meanDirt_22 : Dc b_Ward_meanDirt 22 .dreturn 1 23 := ⟨by decide +kernel, rfl⟩
theorem d_Ward_meanDirt_23 : Dc b_Ward_meanDirt 23 (.aload_n 0) 1 24 := ⟨by decide +kernel, rfl⟩
theorem d_Ward_meanDirt_24 : Dc b_Ward_meanDirt 24 (.getfield 55) 3 27 := ⟨by decide +kernel, rfl⟩
theorem d_Ward_meanDirt_27 : Dc b_Ward_meanDirt 27 (.invokevirtual 282) 3 30 := ⟨by decide +kernel, rfl⟩
theorem d_Ward_meanDirt_30 : Dc b_Ward_meanDirt 30 .i2d 1 31 := ⟨by decide +kernel, rfl⟩
theorem d_Ward_meanDirt_31 : Dc b_Ward_meanDirt 31 (.iload_n 1) 1 32 := ⟨by decide +kernel, rfl⟩
theorem d_Ward_meanDirt_32 : Dc b_Ward_meanDirt 32 .i2d 1 33 := ⟨by decide +kernel, rfl⟩
theorem d_Ward_meanDirt_33 : Dc b_Ward_meanDirt 33 .ddiv 1 34 := ⟨by decide +kernel, rfl⟩
theorem d_Ward_meanDirt_34 : Dc b_Ward_meanDirt 34 .dreturn 1 35 := ⟨by decide +kernel, rfl⟩
abbrev b_Ward_noteMissed : ByteArray := prog_1_method_32_code
def y_Ward_noteMissed : MethodName := ⟨"BinWard", "noteMissed", "(LBinWard$Lorry;I)V"⟩
theorem d_Ward_noteMissed_0 : Dc b_Ward_noteMissed 0 (.aload_n 1) 1 1 := ⟨by decide +kernel, rfl⟩
theorem d_Ward_noteMissed_1 : Dc b_Ward_noteMissed 1 (.getfield 370) 3 4 := ⟨by decide +kernel, rfl⟩
theorem d_Ward_noteMissed_4 : Dc b_Ward_noteMissed 4 (.getfield 381) 3 7 := ⟨by decide +kernel, rfl⟩
theorem d_Ward_noteMissed_7 : Dc b_Ward_noteMissed 7 (.istore_n 3) 1 8 := ⟨by decide +kernel, rfl⟩
theorem d_Ward_noteMissed_8 : Dc b_Ward_noteMissed 8 (.iload_n 3) 1 9 := ⟨by decide +kernel, rfl⟩
theorem d_Ward_noteMissed_9 : Dc b_Ward_noteMissed 9 (.aload_n 1) 1 10 := ⟨by decide +kernel, rfl⟩
theorem d_Ward_noteMissed_10 : Dc b_Ward_noteMissed 10 (.getfield 139) 3 13 := ⟨by decide +kernel, rfl⟩
theorem d_Ward_noteMissed_13 : Dc b_Ward_noteMissed 13 (.iload_n 2) 1 14 := ⟨by decide +kernel, rfl⟩
theorem d_Ward_noteMissed_14 : Dc b_Ward_noteMissed 14 .iaload 1 15 := ⟨by decide +kernel, rfl⟩
theorem d_Ward_noteMissed_15 : Dj b_Ward_noteMissed 15 (.if_icmp .ge) 85 18 := ⟨70, by decide +kernel, by decide, rfl⟩
theorem d_Ward_noteMissed_18 : Dc b_Ward_noteMissed 18 (.aload_n 1) 1 19 := ⟨by decide +kernel, rfl⟩
theorem d_Ward_noteMissed_19 : Dc b_Ward_noteMissed 19 (.getfield 384) 3 22 := ⟨by decide +kernel, rfl⟩
theorem d_Ward_noteMissed_22 : Dc b_Ward_noteMissed 22 (.iload_n 2) 1 23 := ⟨by decide +kernel, rfl⟩
theorem d_Ward_noteMissed_23 : Dc b_Ward_noteMissed 23 .aaload 1 24 := ⟨by decide +kernel, rfl⟩
theorem d_Ward_noteMissed_24 : Dc b_Ward_noteMissed 24 (.iload_n 3) 1 25 := ⟨by decide +kernel, rfl⟩
theorem d_Ward_noteMissed_25 : Dc b_Ward_noteMissed 25 .iaload 1 26 := ⟨by decide +kernel, rfl⟩
theorem d_Ward_noteMissed_26 : Dc b_Ward_noteMissed 26 (.istore 4) 2 28 := ⟨by decide +kernel, rfl⟩
theorem d_Ward_noteMissed_28 : Dc b_Ward_noteMissed 28 (.aload_n 0) 1 29 := ⟨by decide +kernel, rfl⟩
theorem d_Ward_noteMissed_29 : Dc b_Ward_noteMissed 29 (.getfield 41) 3 32 := ⟨by decide +kernel, rfl⟩
theorem d_Ward_noteMissed_32 : Dc b_Ward_noteMissed 32 (.aload_n 0) 1 33 := ⟨by decide +kernel, rfl⟩
theorem d_Ward_noteMissed_33 : Dc b_Ward_noteMissed 33 (.getfield 187) 3 36 := ⟨by decide +kernel, rfl⟩
theorem d_Ward_noteMissed_36 : Dc b_Ward_noteMissed 36 (.iload 4) 2 38 := ⟨by decide +kernel, rfl⟩
theorem d_Ward_noteMissed_38 : Dc b_Ward_noteMissed 38 (.invokestatic 202) 3 41 := ⟨by decide +kernel, rfl⟩
theorem d_Ward_noteMissed_41 : Dc b_Ward_noteMissed 41 (.invokevirtual 194) 3 44 := ⟨by decide +kernel, rfl⟩
theorem d_Ward_noteMissed_44 : Dj b_Ward_noteMissed 44 (.ifCond .ne) 79 47 := ⟨35, by decide +kernel, by decide, rfl⟩
theorem d_Ward_noteMissed_47 : Dc b_Ward_noteMissed 47 (.aload_n 0) 1 48 := ⟨by decide +kernel, rfl⟩
theorem d_Ward_noteMissed_48 : Dc b_Ward_noteMissed 48 (.getfield 41) 3 51 := ⟨by decide +kernel, rfl⟩
theorem d_Ward_noteMissed_51 : Dc b_Ward_noteMissed 51 (.aload_n 0) 1 52 := ⟨by decide +kernel, rfl⟩
theorem d_Ward_noteMissed_52 : Dc b_Ward_noteMissed 52 (.getfield 187) 3 55 := ⟨by decide +kernel, rfl⟩
theorem d_Ward_noteMissed_55 : Dc b_Ward_noteMissed 55 (.iload 4) 2 57 := ⟨by decide +kernel, rfl⟩
theorem d_Ward_noteMissed_57 : Dc b_Ward_noteMissed 57 (.invokestatic 202) 3 60 := ⟨by decide +kernel, rfl⟩
theorem d_Ward_noteMissed_60 : Dc b_Ward_noteMissed 60 (.invokevirtual 199) 3 63 := ⟨by decide +kernel, rfl⟩
theorem d_Ward_noteMissed_63 : Dc b_Ward_noteMissed 63 (.aload_n 0) 1 64 := ⟨by decide +kernel, rfl⟩
theorem d_Ward_noteMissed_64 : Dc b_Ward_noteMissed 64 (.getfield 11) 3 67 := ⟨by decide +kernel, rfl⟩
theorem d_Ward_noteMissed_67 : Dc b_Ward_noteMissed 67 (.iload 4) 2 69 := ⟨by decide +kernel, rfl⟩
theorem d_Ward_noteMissed_69 : Dc b_Ward_noteMissed 69 .aaload 1 70 := ⟨by decide +kernel, rfl⟩
theorem d_Ward_noteMissed_70 : Dc b_Ward_noteMissed 70 .dup 1 71 := ⟨by decide +kernel, rfl⟩
theorem d_Ward_noteMissed_71 : Dc b_Ward_noteMissed 71 (.getfield 216) 3 74 := ⟨by decide +kernel, rfl⟩
theorem d_Ward_noteMissed_74 : Dc b_Ward_noteMissed 74 (.iconst 1) 1 75 := ⟨by decide +kernel, rfl⟩
theorem d_Ward_noteMissed_75 : Dc b_Ward_noteMissed 75 .iadd 1 76 := ⟨by decide +kernel, rfl⟩
theorem d_Ward_noteMissed_76 : Dc b_Ward_noteMissed 76 (.putfield 216) 3 79 := ⟨by decide +kernel, rfl⟩
theorem d_Ward_noteMissed_79 : Dc b_Ward_noteMissed 79 (.iinc 3 1) 3 82 := ⟨by decide +kernel, rfl⟩
theorem d_Ward_noteMissed_82 : Dj b_Ward_noteMissed 82 .goto 8 85 := ⟨-74, by decide +kernel, by decide, rfl⟩
theorem d_Ward_noteMissed_85 : Dc b_Ward_noteMissed 85 .return_ 1 86 := ⟨by decide +kernel, rfl⟩
abbrev b_Ward_ofBale : ByteArray := prog_1_method_18_code
def y_Ward_ofBale : MethodName := ⟨"BinWard", "ofBale", "(II)I"⟩
theorem d_Ward_ofBale_0 : Dc b_Ward_ofBale 0 (.aload_n 0) 1 1 := ⟨by decide +kernel, rfl⟩
theorem d_Ward_ofBale_1 : Dc b_Ward_ofBale 1 (.iload_n 1) 1 2 := ⟨by decide +kernel, rfl⟩
theorem d_Ward_ofBale_2 : Dc b_Ward_ofBale 2 (.invokevirtual 155) 3 5 := ⟨by decide +kernel, rfl⟩
theorem d_Ward_ofBale_5 : Dc b_Ward_ofBale 5 (.astore_n 3) 1 6 := ⟨by decide +kernel, rfl⟩
theorem d_Ward_ofBale_6 : Dc b_Ward_ofBale 6 (.iload_n 2) 1 7 := ⟨by decide +kernel, rfl⟩
theorem d_Ward_ofBale_7 : Dc b_Ward_ofBale 7 (.iconst 0) 1 8 := ⟨by decide +kernel, rfl⟩
theorem d_Ward_ofBale_8 : Dc b_Ward_ofBale 8 (.iconst 3) 1 9 := ⟨by decide +kernel, rfl⟩
theorem d_Ward_ofBale_9 : Dc b_Ward_ofBale 9 (.invokestatic 82) 3 12 := ⟨by decide +kernel, rfl⟩
theorem d_Ward_ofBale_12 : Dc b_Ward_ofBale 12 (.iload_n 2) 1 13 := ⟨by decide +kernel, rfl⟩
theorem d_Ward_ofBale_13 : Dc b_Ward_ofBale 13 (.tableswitch 42 0 2 #[27, 32, 37]) 27 40 := ⟨by decide +kernel, rfl⟩
theorem d_Ward_ofBale_40 : Dc b_Ward_ofBale 40 (.aload_n 3) 1 41 := ⟨by decide +kernel, rfl⟩
theorem d_Ward_ofBale_41 : Dc b_Ward_ofBale 41 (.getfield 231) 3 44 := ⟨by decide +kernel, rfl⟩
theorem d_Ward_ofBale_44 : Dc b_Ward_ofBale 44 .ireturn 1 45 := ⟨by decide +kernel, rfl⟩
theorem d_Ward_ofBale_45 : Dc b_Ward_ofBale 45 (.aload_n 3) 1 46 := ⟨by decide +kernel, rfl⟩
theorem d_Ward_ofBale_46 : Dc b_Ward_ofBale 46 (.getfield 166) 3 49 := ⟨by decide +kernel, rfl⟩
theorem d_Ward_ofBale_49 : Dc b_Ward_ofBale 49 .ireturn 1 50 := ⟨by decide +kernel, rfl⟩
theorem d_Ward_ofBale_50 : Dc b_Ward_ofBale 50 (.aload_n 3) 1 51 := ⟨by decide +kernel, rfl⟩
theorem d_Ward_ofBale_51 : Dc b_Ward_ofBale 51 (.getfield 159) 3 54 := ⟨by decide +kernel, rfl⟩
theorem d_Ward_ofBale_54 : Dc b_Ward_ofBale 54 .ireturn 1 55 := ⟨by decide +kernel, rfl⟩
theorem d_Ward_ofBale_55 : Dc b_Ward_ofBale 55 (.aload_n 3) 1 56 := ⟨by decide +kernel, rfl⟩
theorem d_Ward_ofBale_56 : Dc b_Ward_ofBale 56 (.getfield 233) 3 59 := ⟨by decide +kernel, rfl⟩
theorem d_Ward_ofBale_59 : Dc b_Ward_ofBale 59 .ireturn 1 60 := ⟨by decide +kernel, rfl⟩
abbrev b_Ward_ofLorry : ByteArray := prog_1_method_17_code
def y_Ward_ofLorry : MethodName := ⟨"BinWard", "ofLorry", "(II)I"⟩
theorem d_Ward_ofLorry_0 : Dc b_Ward_ofLorry 0 (.aload_n 0) 1 1 := ⟨by decide +kernel, rfl⟩
theorem d_Ward_ofLorry_1 : Dc b_Ward_ofLorry 1 (.iload_n 1) 1 2 := ⟨by decide +kernel, rfl⟩
theorem d_Ward_ofLorry_2 : Dc b_Ward_ofLorry 2 (.invokevirtual 126) 3 5 := ⟨by decide +kernel, rfl⟩
theorem d_Ward_ofLorry_5 : Dc b_Ward_ofLorry 5 (.astore_n 3) 1 6 := ⟨by decide +kernel, rfl⟩
theorem d_Ward_ofLorry_6 : Dc b_Ward_ofLorry 6 (.iload_n 2) 1 7 := ⟨by decide +kernel, rfl⟩
theorem d_Ward_ofLorry_7 : Dc b_Ward_ofLorry 7 (.iconst 0) 1 8 := ⟨by decide +kernel, rfl⟩
theorem d_Ward_ofLorry_8 : Dc b_Ward_ofLorry 8 (.bipush 6) 2 10 := ⟨by decide +kernel, rfl⟩
theorem d_Ward_ofLorry_10 : Dc b_Ward_ofLorry 10 (.invokestatic 82) 3 13 := ⟨by decide +kernel, rfl⟩
theorem d_Ward_ofLorry_13 : Dc b_Ward_ofLorry 13 (.iload_n 2) 1 14 := ⟨by decide +kernel, rfl⟩
theorem d_Ward_ofLorry_14 : Dc b_Ward_ofLorry 14 (.tableswitch 72 0 5 #[38, 43, 50, 57, 62, 67]) 38 52 := ⟨by decide +kernel, rfl⟩
theorem d_Ward_ofLorry_52 : Dc b_Ward_ofLorry 52 (.aload_n 3) 1 53 := ⟨by decide +kernel, rfl⟩
theorem d_Ward_ofLorry_53 : Dc b_Ward_ofLorry 53 (.getfield 120) 3 56 := ⟨by decide +kernel, rfl⟩
theorem d_Ward_ofLorry_56 : Dc b_Ward_ofLorry 56 .ireturn 1 57 := ⟨by decide +kernel, rfl⟩
theorem d_Ward_ofLorry_57 : Dc b_Ward_ofLorry 57 (.aload_n 3) 1 58 := ⟨by decide +kernel, rfl⟩
theorem d_Ward_ofLorry_58 : Dc b_Ward_ofLorry 58 (.getfield 123) 3 61 := ⟨by decide +kernel, rfl⟩
theorem d_Ward_ofLorry_61 : Dc b_Ward_ofLorry 61 (.iconst 0) 1 62 := ⟨by decide +kernel, rfl⟩
theorem d_Ward_ofLorry_62 : Dc b_Ward_ofLorry 62 .iaload 1 63 := ⟨by decide +kernel, rfl⟩
theorem d_Ward_ofLorry_63 : Dc b_Ward_ofLorry 63 .ireturn 1 64 := ⟨by decide +kernel, rfl⟩
theorem d_Ward_ofLorry_64 : Dc b_Ward_ofLorry 64 (.aload_n 3) 1 65 := ⟨by decide +kernel, rfl⟩
theorem d_Ward_ofLorry_65 : Dc b_Ward_ofLorry 65 (.getfield 123) 3 68 := ⟨by decide +kernel, rfl⟩
theorem d_Ward_ofLorry_68 : Dc b_Ward_ofLorry 68 (.iconst 1) 1 69 := ⟨by decide +kernel, rfl⟩
theorem d_Ward_ofLorry_69 : Dc b_Ward_ofLorry 69 .iaload 1 70 := ⟨by decide +kernel, rfl⟩
theorem d_Ward_ofLorry_70 : Dc b_Ward_ofLorry 70 .ireturn 1 71 := ⟨by decide +kernel, rfl⟩
theorem d_Ward_ofLorry_71 : Dc b_Ward_ofLorry 71 (.aload_n 3) 1 72 := ⟨by decide +kernel, rfl⟩
theorem d_Ward_ofLorry_72 : Dc b_Ward_ofLorry 72 (.getfield 219) 3 75 := ⟨by decide +kernel, rfl⟩
theorem d_Ward_ofLorry_75 : Dc b_Ward_ofLorry 75 .ireturn 1 76 := ⟨by decide +kernel, rfl⟩
theorem d_Ward_ofLorry_76 : Dc b_Ward_ofLorry 76 (.aload_n 3) 1 77 := ⟨by decide +kernel, rfl⟩
theorem d_Ward_ofLorry_77 : Dc b_Ward_ofLorry 77 (.getfield 222) 3 80 := ⟨by decide +kernel, rfl⟩
theorem d_Ward_ofLorry_80 : Dc b_Ward_ofLorry 80 .ireturn 1 81 := ⟨by decide +kernel, rfl⟩
theorem d_Ward_ofLorry_81 : Dc b_Ward_ofLorry 81 (.aload_n 3) 1 82 := ⟨by decide +kernel, rfl⟩
theorem d_Ward_ofLorry_82 : Dc b_Ward_ofLorry 82 (.getfield 225) 3 85 := ⟨by decide +kernel, rfl⟩
theorem d_Ward_ofLorry_85 : Dc b_Ward_ofLorry 85 .ireturn 1 86 := ⟨by decide +kernel, rfl⟩
theorem d_Ward_ofLorry_86 : Dc b_Ward_ofLorry 86 (.aload_n 3) 1 87 := ⟨by decide +kernel, rfl⟩
theorem d_Ward_ofLorry_87 : Dc b_Ward_ofLorry 87 (.getfield 228) 3 90 := ⟨by decide +kernel, rfl⟩
theorem d_Ward_ofLorry_90 : Dc b_Ward_ofLorry 90 .ireturn 1 91 := ⟨by decide +kernel, rfl⟩
abbrev b_Ward_ofStreet : ByteArray := prog_1_method_16_code
def y_Ward_ofStreet : MethodName := ⟨"BinWard", "ofStreet", "(II)I"⟩
theorem d_Ward_ofStreet_0 : Dc b_Ward_ofStreet 0 (.aload_n 0) 1 1 := ⟨by decide +kernel, rfl⟩
theorem d_Ward_ofStreet_1 : Dc b_Ward_ofStreet 1 (.iload_n 1) 1 2 := ⟨by decide +kernel, rfl⟩
theorem d_Ward_ofStreet_2 : Dc b_Ward_ofStreet 2 (.invokevirtual 103) 3 5 := ⟨by decide +kernel, rfl⟩
theorem d_Ward_ofStreet_5 : Dc b_Ward_ofStreet 5 (.astore_n 3) 1 6 := ⟨by decide +kernel, rfl⟩
theorem d_Ward_ofStreet_6 : Dc b_Ward_ofStreet 6 (.iload_n 2) 1 7 := ⟨by decide +kernel, rfl⟩
theorem d_Ward_ofStreet_7 : Dc b_Ward_ofStreet 7 (.iconst 0) 1 8 := ⟨by decide +kernel, rfl⟩
theorem d_Ward_ofStreet_8 : Dc b_Ward_ofStreet 8 (.bipush 12) 2 10 := ⟨by decide +kernel, rfl⟩
theorem d_Ward_ofStreet_10 : Dc b_Ward_ofStreet 10 (.invokestatic 82) 3 13 := ⟨by decide +kernel, rfl⟩
theorem d_Ward_ofStreet_13 : Dc b_Ward_ofStreet 13 (.iload_n 2) 1 14 := ⟨by decide +kernel, rfl⟩
theorem d_Ward_ofStreet_14 : Dc b_Ward_ofStreet 14 (.tableswitch 138 0 11 #[62, 67, 72, 77, 84, 91, 98, 105, 112, 119, 126, 133]) 62 76 := ⟨by decide +kernel, rfl⟩
theorem d_Ward_ofStreet_76 : Dc b_Ward_ofStreet 76 (.aload_n 3) 1 77 := ⟨by decide +kernel, rfl⟩
theorem d_Ward_ofStreet_77 : Dc b_Ward_ofStreet 77 (.getfield 97) 3 80 := ⟨by decide +kernel, rfl⟩
theorem d_Ward_ofStreet_80 : Dc b_Ward_ofStreet 80 .ireturn 1 81 := ⟨by decide +kernel, rfl⟩
theorem d_Ward_ofStreet_81 : Dc b_Ward_ofStreet 81 (.aload_n 3) 1 82 := ⟨by decide +kernel, rfl⟩
theorem d_Ward_ofStreet_82 : Dc b_Ward_ofStreet 82 (.getfield 100) 3 85 := ⟨by decide +kernel, rfl⟩
theorem d_Ward_ofStreet_85 : Dc b_Ward_ofStreet 85 .ireturn 1 86 := ⟨by decide +kernel, rfl⟩
theorem d_Ward_ofStreet_86 : Dc b_Ward_ofStreet 86 (.aload_n 3) 1 87 := ⟨by decide +kernel, rfl⟩
theorem d_Ward_ofStreet_87 : Dc b_Ward_ofStreet 87 (.getfield 181) 3 90 := ⟨by decide +kernel, rfl⟩
theorem d_Ward_ofStreet_90 : Dc b_Ward_ofStreet 90 .ireturn 1 91 := ⟨by decide +kernel, rfl⟩
theorem d_Ward_ofStreet_91 : Dc b_Ward_ofStreet 91 (.aload_n 3) 1 92 := ⟨by decide +kernel, rfl⟩
theorem d_Ward_ofStreet_92 : Dc b_Ward_ofStreet 92 (.getfield 111) 3 95 := ⟨by decide +kernel, rfl⟩
theorem d_Ward_ofStreet_95 : Dc b_Ward_ofStreet 95 (.iconst 0) 1 96 := ⟨by decide +kernel, rfl⟩
theorem d_Ward_ofStreet_96 : Dc b_Ward_ofStreet 96 .iaload 1 97 := ⟨by decide +kernel, rfl⟩
theorem d_Ward_ofStreet_97 : Dc b_Ward_ofStreet 97 .ireturn 1 98 := ⟨by decide +kernel, rfl⟩
theorem d_Ward_ofStreet_98 : Dc b_Ward_ofStreet 98 (.aload_n 3) 1 99 := ⟨by decide +kernel, rfl⟩
theorem d_Ward_ofStreet_99 : Dc b_Ward_ofStreet 99 (.getfield 111) 3 102 := ⟨by decide +kernel, rfl⟩
theorem d_Ward_ofStreet_102 : Dc b_Ward_ofStreet 102 (.iconst 1) 1 103 := ⟨by decide +kernel, rfl⟩
theorem d_Ward_ofStreet_103 : Dc b_Ward_ofStreet 103 .iaload 1 104 := ⟨by decide +kernel, rfl⟩
theorem d_Ward_ofStreet_104 : Dc b_Ward_ofStreet 104 .ireturn 1 105 := ⟨by decide +kernel, rfl⟩
theorem d_Ward_ofStreet_105 : Dc b_Ward_ofStreet 105 (.aload_n 3) 1 106 := ⟨by decide +kernel, rfl⟩
theorem d_Ward_ofStreet_106 : Dc b_Ward_ofStreet 106 (.getfield 111) 3 109 := ⟨by decide +kernel, rfl⟩
theorem d_Ward_ofStreet_109 : Dc b_Ward_ofStreet 109 (.iconst 2) 1 110 := ⟨by decide +kernel, rfl⟩
theorem d_Ward_ofStreet_110 : Dc b_Ward_ofStreet 110 .iaload 1 111 := ⟨by decide +kernel, rfl⟩
theorem d_Ward_ofStreet_111 : Dc b_Ward_ofStreet 111 .ireturn 1 112 := ⟨by decide +kernel, rfl⟩
theorem d_Ward_ofStreet_112 : Dc b_Ward_ofStreet 112 (.aload_n 3) 1 113 := ⟨by decide +kernel, rfl⟩
theorem d_Ward_ofStreet_113 : Dc b_Ward_ofStreet 113 (.getfield 208) 3 116 := ⟨by decide +kernel, rfl⟩
theorem d_Ward_ofStreet_116 : Dc b_Ward_ofStreet 116 (.iconst 0) 1 117 := ⟨by decide +kernel, rfl⟩
theorem d_Ward_ofStreet_117 : Dc b_Ward_ofStreet 117 .iaload 1 118 := ⟨by decide +kernel, rfl⟩
theorem d_Ward_ofStreet_118 : Dc b_Ward_ofStreet 118 .ireturn 1 119 := ⟨by decide +kernel, rfl⟩
theorem d_Ward_ofStreet_119 : Dc b_Ward_ofStreet 119 (.aload_n 3) 1 120 := ⟨by decide +kernel, rfl⟩
theorem d_Ward_ofStreet_120 : Dc b_Ward_ofStreet 120 (.getfield 208) 3 123 := ⟨by decide +kernel, rfl⟩
theorem d_Ward_ofStreet_123 : Dc b_Ward_ofStreet 123 (.iconst 1) 1 124 := ⟨by decide +kernel, rfl⟩
theorem d_Ward_ofStreet_124 : Dc b_Ward_ofStreet 124 .iaload 1 125 := ⟨by decide +kernel, rfl⟩
theorem d_Ward_ofStreet_125 : Dc b_Ward_ofStreet 125 .ireturn 1 126 := ⟨by decide +kernel, rfl⟩
theorem d_Ward_ofStreet_126 : Dc b_Ward_ofStreet 126 (.aload_n 3) 1 127 := ⟨by decide +kernel, rfl⟩
theorem d_Ward_ofStreet_127 : Dc b_Ward_ofStreet 127 (.getfield 208) 3 130 := ⟨by decide +kernel, rfl⟩
theorem d_Ward_ofStreet_130 : Dc b_Ward_ofStreet 130 (.iconst 2) 1 131 := ⟨by decide +kernel, rfl⟩
theorem d_Ward_ofStreet_131 : Dc b_Ward_ofStreet 131 .iaload 1 132 := ⟨by decide +kernel, rfl⟩
theorem d_Ward_ofStreet_132 : Dc b_Ward_ofStreet 132 .ireturn 1 133 := ⟨by decide +kernel, rfl⟩
theorem d_Ward_ofStreet_133 : Dc b_Ward_ofStreet 133 (.aload_n 3) 1 134 := ⟨by decide +kernel, rfl⟩
theorem d_Ward_ofStreet_134 : Dc b_Ward_ofStreet 134 (.getfield 211) 3 137 := ⟨by decide +kernel, rfl⟩
theorem d_Ward_ofStreet_137 : Dc b_Ward_ofStreet 137 (.iconst 1) 1 138 := ⟨by decide +kernel, rfl⟩
theorem d_Ward_ofStreet_138 : Dc b_Ward_ofStreet 138 .iaload 1 139 := ⟨by decide +kernel, rfl⟩
theorem d_Ward_ofStreet_139 : Dc b_Ward_ofStreet 139 .ireturn 1 140 := ⟨by decide +kernel, rfl⟩
theorem d_Ward_ofStreet_140 : Dc b_Ward_ofStreet 140 (.aload_n 3) 1 141 := ⟨by decide +kernel, rfl⟩
theorem d_Ward_ofStreet_141 : Dc b_Ward_ofStreet 141 (.getfield 211) 3 144 := ⟨by decide +kernel, rfl⟩
theorem d_Ward_ofStreet_144 : Dc b_Ward_ofStreet 144 (.iconst 2) 1 145 := ⟨by decide +kernel, rfl⟩
theorem d_Ward_ofStreet_145 : Dc b_Ward_ofStreet 145 .iaload 1 146 := ⟨by decide +kernel, rfl⟩
theorem d_Ward_ofStreet_146 : Dc b_Ward_ofStreet 146 .ireturn 1 147 := ⟨by decide +kernel, rfl⟩
theorem d_Ward_ofStreet_147 : Dc b_Ward_ofStreet 147 (.aload_n 3) 1 148 := ⟨by decide +kernel, rfl⟩
theorem d_Ward_ofStreet_148 : Dc b_Ward_ofStreet 148 (.invokevirtual 213) 3 151 := ⟨by decide +kernel, rfl⟩
theorem d_Ward_ofStreet_151 : Dc b_Ward_ofStreet 151 .ireturn 1 152 := ⟨by decide +kernel, rfl⟩
theorem d_Ward_ofStreet_152 : Dc b_Ward_ofStreet 152 (.aload_n 3) 1 153 := ⟨by decide +kernel, rfl⟩
theorem d_Ward_ofStreet_153 : Dc b_Ward_ofStreet 153 (.getfield 216) 3 156 := ⟨by decide +kernel, rfl⟩
theorem d_Ward_ofStreet_156 : Dc b_Ward_ofStreet 156 .ireturn 1 157 := ⟨by decide +kernel, rfl⟩
abbrev b_Ward_opn : ByteArray := prog_1_method_13_code
def y_Ward_opn : MethodName := ⟨"BinWard", "open", "(I)I"⟩
theorem d_Ward_opn_0 : Dc b_Ward_opn 0 (.aload_n 0) 1 1 := ⟨by decide +kernel, rfl⟩
theorem d_Ward_opn_1 : Dc b_Ward_opn 1 (.iload_n 1) 1 2 := ⟨by decide +kernel, rfl⟩
theorem d_Ward_opn_2 : Dc b_Ward_opn 2 (.invokevirtual 155) 3 5 := ⟨by decide +kernel, rfl⟩
theorem d_Ward_opn_5 : Dc b_Ward_opn 5 (.astore_n 2) 1 6 := ⟨by decide +kernel, rfl⟩
theorem d_Ward_opn_6 : Dc b_Ward_opn 6 (.aload_n 2) 1 7 := ⟨by decide +kernel, rfl⟩
theorem d_Ward_opn_7 : Dc b_Ward_opn 7 (.getfield 159) 3 10 := ⟨by decide +kernel, rfl⟩
theorem d_Ward_opn_10 : Dc b_Ward_opn 10 (.iconst 2) 1 11 := ⟨by decide +kernel, rfl⟩
theorem d_Ward_opn_11 : Dj b_Ward_opn 11 (.if_icmp .eq) 24 14 := ⟨13, by decide +kernel, by decide, rfl⟩
theorem d_Ward_opn_14 : Dc b_Ward_opn 14 (.new 90) 3 17 := ⟨by decide +kernel, rfl⟩
theorem d_Ward_opn_17 : Dc b_Ward_opn 17 .dup 1 18 := ⟨by decide +kernel, rfl⟩
theorem d_Ward_opn_18 : Dc b_Ward_opn 18 (.ldc 172) 2 20 := ⟨by decide +kernel, rfl⟩
theorem d_Ward_opn_20 : Dc b_Ward_opn 20 (.invokespecial 94) 3 23 := ⟨by decide +kernel, rfl⟩
theorem d_Ward_opn_23 : Dc b_Ward_opn 23 .athrow 1 24 := ⟨by decide +kernel, rfl⟩
theorem d_Ward_opn_24 : Dc b_Ward_opn 24 (.aload_n 0) 1 25 := ⟨by decide +kernel, rfl⟩
theorem d_Ward_opn_25 : Dc b_Ward_opn 25 (.getfield 55) 3 28 := ⟨by decide +kernel, rfl⟩
theorem d_Ward_opn_28 : Dc b_Ward_opn 28 (.aload_n 2) 1 29 := ⟨by decide +kernel, rfl⟩
theorem d_Ward_opn_29 : Dc b_Ward_opn 29 (.invokevirtual 174) 3 32 := ⟨by decide +kernel, rfl⟩
theorem d_Ward_opn_32 : Dc b_Ward_opn 32 (.aload_n 0) 1 33 := ⟨by decide +kernel, rfl⟩
theorem d_Ward_opn_33 : Dc b_Ward_opn 33 (.getfield 55) 3 36 := ⟨by decide +kernel, rfl⟩
theorem d_Ward_opn_36 : Dc b_Ward_opn 36 (.invokevirtual 178) 3 39 := ⟨by decide +kernel, rfl⟩
theorem d_Ward_opn_39 : Dc b_Ward_opn 39 .ireturn 1 40 := ⟨by decide +kernel, rfl⟩
abbrev b_Ward_oven : ByteArray := prog_1_method_10_code
def y_Ward_oven : MethodName := ⟨"BinWard", "oven", "(I)I"⟩
theorem d_Ward_oven_0 : Dc b_Ward_oven 0 (.iload_n 1) 1 1 := ⟨by decide +kernel, rfl⟩
theorem d_Ward_oven_1 : Dc b_Ward_oven 1 (.iconst 0) 1 2 := ⟨by decide +kernel, rfl⟩
theorem d_Ward_oven_2 : Dc b_Ward_oven 2 (.sipush 200) 3 5 := ⟨by decide +kernel, rfl⟩
theorem d_Ward_oven_5 : Dc b_Ward_oven 5 (.invokestatic 82) 3 8 := ⟨by decide +kernel, rfl⟩
theorem d_Ward_oven_8 : Dc b_Ward_oven 8 (.aload_n 0) 1 9 := ⟨by decide +kernel, rfl⟩
theorem d_Ward_oven_9 : Dc b_Ward_oven 9 (.getfield 62) 3 12 := ⟨by decide +kernel, rfl⟩
theorem d_Ward_oven_12 : Dc b_Ward_oven 12 (.getfield 148) 3 15 := ⟨by decide +kernel, rfl⟩
theorem d_Ward_oven_15 : Dc b_Ward_oven 15 (.istore_n 2) 1 16 := ⟨by decide +kernel, rfl⟩
theorem d_Ward_oven_16 : Dc b_Ward_oven 16 (.aload_n 0) 1 17 := ⟨by decide +kernel, rfl⟩
theorem d_Ward_oven_17 : Dc b_Ward_oven 17 (.getfield 62) 3 20 := ⟨by decide +kernel, rfl⟩
theorem d_Ward_oven_20 : Dc b_Ward_oven 20 (.iload_n 1) 1 21 := ⟨by decide +kernel, rfl⟩
theorem d_Ward_oven_21 : Dc b_Ward_oven 21 (.putfield 148) 3 24 := ⟨by decide +kernel, rfl⟩
theorem d_Ward_oven_24 : Dc b_Ward_oven 24 (.iload_n 2) 1 25 := ⟨by decide +kernel, rfl⟩
theorem d_Ward_oven_25 : Dc b_Ward_oven 25 .ireturn 1 26 := ⟨by decide +kernel, rfl⟩
abbrev b_Ward_pass : ByteArray := prog_1_method_11_code
def y_Ward_pass : MethodName := ⟨"BinWard", "pass", "(I)I"⟩
theorem d_Ward_pass_0 : Dc b_Ward_pass 0 (.iload_n 1) 1 1 := ⟨by decide +kernel, rfl⟩
theorem d_Ward_pass_1 : Dc b_Ward_pass 1 (.iconst 1) 1 2 := ⟨by decide +kernel, rfl⟩
theorem d_Ward_pass_2 : Dc b_Ward_pass 2 (.bipush 30) 2 4 := ⟨by decide +kernel, rfl⟩
theorem d_Ward_pass_4 : Dc b_Ward_pass 4 (.invokestatic 82) 3 7 := ⟨by decide +kernel, rfl⟩
theorem d_Ward_pass_7 : Dc b_Ward_pass 7 (.iconst 0) 1 8 := ⟨by decide +kernel, rfl⟩
theorem d_Ward_pass_8 : Dc b_Ward_pass 8 (.istore_n 2) 1 9 := ⟨by decide +kernel, rfl⟩
theorem d_Ward_pass_9 : Dc b_Ward_pass 9 (.iconst 0) 1 10 := ⟨by decide +kernel, rfl⟩
theorem d_Ward_pass_10 : Dc b_Ward_pass 10 (.istore_n 3) 1 11 := ⟨by decide +kernel, rfl⟩
theorem d_Ward_pass_11 : Dc b_Ward_pass 11 (.iload_n 3) 1 12 := ⟨by decide +kernel, rfl⟩
theorem d_Ward_pass_12 : Dc b_Ward_pass 12 (.iload_n 1) 1 13 := ⟨by decide +kernel, rfl⟩
theorem d_Ward_pass_13 : Dj b_Ward_pass 13 (.if_icmp .ge) 29 16 := ⟨16, by decide +kernel, by decide, rfl⟩
theorem d_Ward_pass_16 : Dc b_Ward_pass 16 (.iload_n 2) 1 17 := ⟨by decide +kernel, rfl⟩
theorem d_Ward_pass_17 : Dc b_Ward_pass 17 (.aload_n 0) 1 18 := ⟨by decide +kernel, rfl⟩
theorem d_Ward_pass_18 : Dc b_Ward_pass 18 (.invokevirtual 151) 3 21 := ⟨by decide +kernel, rfl⟩
theorem d_Ward_pass_21 : Dc b_Ward_pass 21 .iadd 1 22 := ⟨by decide +kernel, rfl⟩
theorem d_Ward_pass_22 : Dc b_Ward_pass 22 (.istore_n 2) 1 23 := ⟨by decide +kernel, rfl⟩
theorem d_Ward_pass_23 : Dc b_Ward_pass 23 (.iinc 3 1) 3 26 := ⟨by decide +kernel, rfl⟩
theorem d_Ward_pass_26 : Dj b_Ward_pass 26 .goto 11 29 := ⟨-15, by decide +kernel, by decide, rfl⟩
theorem d_Ward_pass_29 : Dc b_Ward_pass 29 (.iload_n 2) 1 30 := ⟨by decide +kernel, rfl⟩
theorem d_Ward_pass_30 : Dc b_Ward_pass 30 .ireturn 1 31 := ⟨by decide +kernel, rfl⟩
abbrev b_Ward_rate : ByteArray := prog_1_method_20_code
def y_Ward_rate : MethodName := ⟨"BinWard", "rate", "(I)I"⟩
theorem d_Ward_rate_0 : Dc b_Ward_rate 0 (.iload_n 1) 1 1 := ⟨by decide +kernel, rfl⟩
theorem d_Ward_rate_1 : Dc b_Ward_rate 1 (.iconst 0) 1 2 := ⟨by decide +kernel, rfl⟩
theorem d_Ward_rate_2 : Dc b_Ward_rate 2 (.iconst 2) 1 3 := ⟨by decide +kernel, rfl⟩
theorem d_Ward_rate_3 : Dc b_Ward_rate 3 (.invokestatic 82) 3 6 := ⟨by decide +kernel, rfl⟩
theorem d_Ward_rate_6 : Dc b_Ward_rate 6 (.aload_n 0) 1 7 := ⟨by decide +kernel, rfl⟩
theorem d_Ward_rate_7 : Dc b_Ward_rate 7 (.invokevirtual 272) 3 10 := ⟨by decide +kernel, rfl⟩
theorem d_Ward_rate_10 : Dc b_Ward_rate 10 (.istore_n 2) 1 11 := ⟨by decide +kernel, rfl⟩
theorem d_Ward_rate_11 : Dc b_Ward_rate 11 (.iload_n 2) 1 12 := ⟨by decide +kernel, rfl⟩
theorem d_Ward_rate_12 : Dj b_Ward_rate 12 (.ifCond .gt) 17 15 := ⟨5, by decide +kernel, by decide, rfl⟩
theorem d_Ward_rate_15 : Dc b_Ward_rate 15 (.iconst 0) 1 16 := ⟨by decide +kernel, rfl⟩
theorem d_Ward_rate_16 : Dc b_Ward_rate 16 .ireturn 1 17 := ⟨by decide +kernel, rfl⟩
theorem d_Ward_rate_17 : Dc b_Ward_rate 17 (.bipush 100) 2 19 := ⟨by decide +kernel, rfl⟩
theorem d_Ward_rate_19 : Dc b_Ward_rate 19 (.aload_n 0) 1 20 := ⟨by decide +kernel, rfl⟩
theorem d_Ward_rate_20 : Dc b_Ward_rate 20 (.iload_n 1) 1 21 := ⟨by decide +kernel, rfl⟩
theorem d_Ward_rate_21 : Dc b_Ward_rate 21 (.invokevirtual 279) 3 24 := ⟨by decide +kernel, rfl⟩
theorem d_Ward_rate_24 : Dc b_Ward_rate 24 .imul 1 25 := ⟨by decide +kernel, rfl⟩
theorem d_Ward_rate_25 : Dc b_Ward_rate 25 (.iload_n 2) 1 26 := ⟨by decide +kernel, rfl⟩
theorem d_Ward_rate_26 : Dc b_Ward_rate 26 .idiv 1 27 := ⟨by decide +kernel, rfl⟩
theorem d_Ward_rate_27 : Dc b_Ward_rate 27 .ireturn 1 28 := ⟨by decide +kernel, rfl⟩
abbrev b_Ward_round : ByteArray := prog_1_method_6_code
def y_Ward_round : MethodName := ⟨"BinWard", "round", "(III)I"⟩
theorem d_Ward_round_0 : Dc b_Ward_round 0 (.aload_n 0) 1 1 := ⟨by decide +kernel, rfl⟩
theorem d_Ward_round_1 : Dc b_Ward_round 1 (.iload_n 1) 1 2 := ⟨by decide +kernel, rfl⟩
theorem d_Ward_round_2 : Dc b_Ward_round 2 (.invokevirtual 126) 3 5 := ⟨by decide +kernel, rfl⟩
theorem d_Ward_round_5 : Dc b_Ward_round 5 (.astore 4) 2 7 := ⟨by decide +kernel, rfl⟩
theorem d_Ward_round_7 : Dc b_Ward_round 7 (.iload_n 2) 1 8 := ⟨by decide +kernel, rfl⟩
theorem d_Ward_round_8 : Dc b_Ward_round 8 (.bipush 7) 2 10 := ⟨by decide +kernel, rfl⟩
theorem d_Ward_round_10 : Dc b_Ward_round 10 (.invokestatic 107) 3 13 := ⟨by decide +kernel, rfl⟩
theorem d_Ward_round_13 : Dc b_Ward_round 13 (.iload_n 3) 1 14 := ⟨by decide +kernel, rfl⟩
theorem d_Ward_round_14 : Dc b_Ward_round 14 (.aload_n 0) 1 15 := ⟨by decide +kernel, rfl⟩
theorem d_Ward_round_15 : Dc b_Ward_round 15 (.getfield 86) 3 18 := ⟨by decide +kernel, rfl⟩
theorem d_Ward_round_18 : Dc b_Ward_round 18 (.invokestatic 107) 3 21 := ⟨by decide +kernel, rfl⟩
theorem d_Ward_round_21 : Dc b_Ward_round 21 (.aload 4) 2 23 := ⟨by decide +kernel, rfl⟩
theorem d_Ward_round_23 : Dc b_Ward_round 23 (.iload_n 2) 1 24 := ⟨by decide +kernel, rfl⟩
theorem d_Ward_round_24 : Dc b_Ward_round 24 (.iload_n 3) 1 25 := ⟨by decide +kernel, rfl⟩
theorem d_Ward_round_25 : Dc b_Ward_round 25 (.invokevirtual 130) 3 28 := ⟨by decide +kernel, rfl⟩
theorem d_Ward_round_28 : Dj b_Ward_round 28 (.ifCond .eq) 41 31 := ⟨13, by decide +kernel, by decide, rfl⟩
theorem d_Ward_round_31 : Dc b_Ward_round 31 (.new 90) 3 34 := ⟨by decide +kernel, rfl⟩
theorem d_Ward_round_34 : Dc b_Ward_round 34 .dup 1 35 := ⟨by decide +kernel, rfl⟩
theorem d_Ward_round_35 : Dc b_Ward_round 35 (.ldc 134) 2 37 := ⟨by decide +kernel, rfl⟩
theorem d_Ward_round_37 : Dc b_Ward_round 37 (.invokespecial 94) 3 40 := ⟨by decide +kernel, rfl⟩
theorem d_Ward_round_40 : Dc b_Ward_round 40 .athrow 1 41 := ⟨by decide +kernel, rfl⟩
theorem d_Ward_round_41 : Dc b_Ward_round 41 (.aload 4) 2 43 := ⟨by decide +kernel, rfl⟩
theorem d_Ward_round_43 : Dc b_Ward_round 43 (.iload_n 2) 1 44 := ⟨by decide +kernel, rfl⟩
theorem d_Ward_round_44 : Dc b_Ward_round 44 (.iload_n 3) 1 45 := ⟨by decide +kernel, rfl⟩
theorem d_Ward_round_45 : Dc b_Ward_round 45 (.invokevirtual 136) 3 48 := ⟨by decide +kernel, rfl⟩
theorem d_Ward_round_48 : Dc b_Ward_round 48 (.aload 4) 2 50 := ⟨by decide +kernel, rfl⟩
theorem d_Ward_round_50 : Dc b_Ward_round 50 (.getfield 139) 3 53 := ⟨by decide +kernel, rfl⟩
theorem d_Ward_round_53 : Dc b_Ward_round 53 (.iload_n 2) 1 54 := ⟨by decide +kernel, rfl⟩
theorem d_Ward_round_54 : Dc b_Ward_round 54 .iaload 1 55 := ⟨by decide +kernel, rfl⟩
theorem d_Ward_round_55 : Dc b_Ward_round 55 .ireturn 1 56 := ⟨by decide +kernel, rfl⟩
abbrev b_Ward_roundedUp : ByteArray := prog_1_method_38_code
def y_Ward_roundedUp : MethodName := ⟨"BinWard", "roundedUp", "(II)I"⟩
theorem d_Ward_roundedUp_0 : Dc b_Ward_roundedUp 0 (.iload_n 1) 1 1 := ⟨by decide +kernel, rfl⟩
theorem d_Ward_roundedUp_1 : Dj b_Ward_roundedUp 1 (.ifCond .gt) 8 4 := ⟨7, by decide +kernel, by decide, rfl⟩
theorem d_Ward_roundedUp_4 : Dc b_Ward_roundedUp 4 (.iconst 0) 1 5 := ⟨by decide +kernel, rfl⟩
theorem d_Ward_roundedUp_5 : Dj b_Ward_roundedUp 5 .goto 15 8 := ⟨10, by decide +kernel, by decide, rfl⟩
theorem d_Ward_roundedUp_8 : Dc b_Ward_roundedUp 8 (.iload_n 0) 1 9 := ⟨by decide +kernel, rfl⟩
theorem d_Ward_roundedUp_9 : Dc b_Ward_roundedUp 9 (.iload_n 1) 1 10 := ⟨by decide +kernel, rfl⟩
theorem d_Ward_roundedUp_10 : Dc b_Ward_roundedUp 10 .iadd 1 11 := ⟨by decide +kernel, rfl⟩
theorem d_Ward_roundedUp_11 : Dc b_Ward_roundedUp 11 (.iconst 1) 1 12 := ⟨by decide +kernel, rfl⟩
theorem d_Ward_roundedUp_12 : Dc b_Ward_roundedUp 12 .isub 1 13 := ⟨by decide +kernel, rfl⟩
theorem d_Ward_roundedUp_13 : Dc b_Ward_roundedUp 13 (.iload_n 1) 1 14 := ⟨by decide +kernel, rfl⟩
theorem d_Ward_roundedUp_14 : Dc b_Ward_roundedUp 14 .idiv 1 15 := ⟨by decide +kernel, rfl⟩
theorem d_Ward_roundedUp_15 : Dc b_Ward_roundedUp 15 .ireturn 1 16 := ⟨by decide +kernel, rfl⟩
abbrev b_Ward_sell : ByteArray := prog_1_method_12_code
def y_Ward_sell : MethodName := ⟨"BinWard", "sell", "(III)Z"⟩
theorem d_Ward_sell_0 : Dc b_Ward_sell 0 (.aload_n 0) 1 1 := ⟨by decide +kernel, rfl⟩
theorem d_Ward_sell_1 : Dc b_Ward_sell 1 (.iload_n 1) 1 2 := ⟨by decide +kernel, rfl⟩
theorem d_Ward_sell_2 : Dc b_Ward_sell 2 (.invokevirtual 155) 3 5 := ⟨by decide +kernel, rfl⟩
theorem d_Ward_sell_5 : Dc b_Ward_sell 5 (.astore 4) 2 7 := ⟨by decide +kernel, rfl⟩
theorem d_Ward_sell_7 : Dc b_Ward_sell 7 (.iload_n 2) 1 8 := ⟨by decide +kernel, rfl⟩
theorem d_Ward_sell_8 : Dc b_Ward_sell 8 (.iconst 0) 1 9 := ⟨by decide +kernel, rfl⟩
theorem d_Ward_sell_9 : Dc b_Ward_sell 9 (.bipush 40) 2 11 := ⟨by decide +kernel, rfl⟩
theorem d_Ward_sell_11 : Dc b_Ward_sell 11 (.invokestatic 82) 3 14 := ⟨by decide +kernel, rfl⟩
theorem d_Ward_sell_14 : Dc b_Ward_sell 14 (.iload_n 3) 1 15 := ⟨by decide +kernel, rfl⟩
theorem d_Ward_sell_15 : Dc b_Ward_sell 15 (.iconst 1) 1 16 := ⟨by decide +kernel, rfl⟩
theorem d_Ward_sell_16 : Dc b_Ward_sell 16 (.bipush 99) 2 18 := ⟨by decide +kernel, rfl⟩
theorem d_Ward_sell_18 : Dc b_Ward_sell 18 (.invokestatic 82) 3 21 := ⟨by decide +kernel, rfl⟩
theorem d_Ward_sell_21 : Dc b_Ward_sell 21 (.aload 4) 2 23 := ⟨by decide +kernel, rfl⟩
theorem d_Ward_sell_23 : Dc b_Ward_sell 23 (.getfield 159) 3 26 := ⟨by decide +kernel, rfl⟩
theorem d_Ward_sell_26 : Dj b_Ward_sell 26 (.ifCond .eq) 39 29 := ⟨13, by decide +kernel, by decide, rfl⟩
theorem d_Ward_sell_29 : Dc b_Ward_sell 29 (.new 90) 3 32 := ⟨by decide +kernel, rfl⟩
theorem d_Ward_sell_32 : Dc b_Ward_sell 32 .dup 1 33 := ⟨by decide +kernel, rfl⟩
theorem d_Ward_sell_33 : Dc b_Ward_sell 33 (.ldc 164) 2 35 := ⟨by decide +kernel, rfl⟩
theorem d_Ward_sell_35 : Dc b_Ward_sell 35 (.invokespecial 94) 3 38 := ⟨by decide +kernel, rfl⟩
theorem d_Ward_sell_38 : Dc b_Ward_sell 38 .athrow 1 39 := ⟨by decide +kernel, rfl⟩
theorem d_Ward_sell_39 : Dc b_Ward_sell 39 (.aload 4) 2 41 := ⟨by decide +kernel, rfl⟩
theorem d_Ward_sell_41 : Dc b_Ward_sell 41 (.getfield 166) 3 44 := ⟨by decide +kernel, rfl⟩
theorem d_Ward_sell_44 : Dc b_Ward_sell 44 (.iload_n 2) 1 45 := ⟨by decide +kernel, rfl⟩
theorem d_Ward_sell_45 : Dj b_Ward_sell 45 (.if_icmp .gt) 52 48 := ⟨7, by decide +kernel, by decide, rfl⟩
theorem d_Ward_sell_48 : Dc b_Ward_sell 48 (.iconst 1) 1 49 := ⟨by decide +kernel, rfl⟩
theorem d_Ward_sell_49 : Dj b_Ward_sell 49 .goto 53 52 := ⟨4, by decide +kernel, by decide, rfl⟩
theorem d_Ward_sell_52 : Dc b_Ward_sell 52 (.iconst 0) 1 53 := ⟨by decide +kernel, rfl⟩
theorem d_Ward_sell_53 : Dc b_Ward_sell 53 (.istore 5) 2 55 := ⟨by decide +kernel, rfl⟩
theorem d_Ward_sell_55 : Dc b_Ward_sell 55 (.aload 4) 2 57 := ⟨by decide +kernel, rfl⟩
theorem d_Ward_sell_57 : Dc b_Ward_sell 57 (.iload 5) 2 59 := ⟨by decide +kernel, rfl⟩
theorem d_Ward_sell_59 : Dj b_Ward_sell 59 (.ifCond .eq) 66 62 := ⟨7, by decide +kernel, by decide, rfl⟩
theorem d_Ward_sell_62 : Dc b_Ward_sell 62 (.iconst 1) 1 63 := ⟨by decide +kernel, rfl⟩
theorem d_Ward_sell_63 : Dj b_Ward_sell 63 .goto 67 66 := ⟨4, by decide +kernel, by decide, rfl⟩
theorem d_Ward_sell_66 : Dc b_Ward_sell 66 (.iconst 2) 1 67 := ⟨by decide +kernel, rfl⟩
theorem d_Ward_sell_67 : Dc b_Ward_sell 67 (.putfield 159) 3 70 := ⟨by decide +kernel, rfl⟩
theorem d_Ward_sell_70 : Dc b_Ward_sell 70 (.aload_n 0) 1 71 := ⟨by decide +kernel, rfl⟩
theorem d_Ward_sell_71 : Dc b_Ward_sell 71 .dup 1 72 := ⟨by decide +kernel, rfl⟩
theorem d_Ward_sell_72 : Dc b_Ward_sell 72 (.getfield 169) 3 75 := ⟨by decide +kernel, rfl⟩
theorem d_Ward_sell_75 : Dc b_Ward_sell 75 (.iload 5) 2 77 := ⟨by decide +kernel, rfl⟩
theorem d_Ward_sell_77 : Dj b_Ward_sell 77 (.ifCond .eq) 84 80 := ⟨7, by decide +kernel, by decide, rfl⟩
theorem d_Ward_sell_80 : Dc b_Ward_sell 80 (.iload_n 3) 1 81 := ⟨by decide +kernel, rfl⟩
theorem d_Ward_sell_81 : Dj b_Ward_sell 81 .goto 86 84 := ⟨5, by decide +kernel, by decide, rfl⟩
theorem d_Ward_sell_84 : Dc b_Ward_sell 84 (.bipush (-15)) 2 86 := ⟨by decide +kernel, rfl⟩
theorem d_Ward_sell_86 : Dc b_Ward_sell 86 .iadd 1 87 := ⟨by decide +kernel, rfl⟩
theorem d_Ward_sell_87 : Dc b_Ward_sell 87 (.putfield 169) 3 90 := ⟨by decide +kernel, rfl⟩
theorem d_Ward_sell_90 : Dc b_Ward_sell 90 (.iload 5) 2 92 := ⟨by decide +kernel, rfl⟩
theorem d_Ward_sell_92 : Dc b_Ward_sell 92 .ireturn 1 93 := ⟨by decide +kernel, rfl⟩
abbrev b_Ward_sortLoads : ByteArray := prog_1_method_33_code
def y_Ward_sortLoads : MethodName := ⟨"BinWard", "sortLoads", "()V"⟩
theorem d_Ward_sortLoads_0 : Dc b_Ward_sortLoads 0 (.aload_n 0) 1 1 := ⟨by decide +kernel, rfl⟩
theorem d_Ward_sortLoads_1 : Dc b_Ward_sortLoads 1 (.getfield 62) 3 4 := ⟨by decide +kernel, rfl⟩
theorem d_Ward_sortLoads_4 : Dc b_Ward_sortLoads 4 (.invokevirtual 388) 3 7 := ⟨by decide +kernel, rfl⟩
theorem d_Ward_sortLoads_7 : Dc b_Ward_sortLoads 7 (.aload_n 0) 1 8 := ⟨by decide +kernel, rfl⟩
theorem d_Ward_sortLoads_8 : Dc b_Ward_sortLoads 8 (.getfield 48) 3 11 := ⟨by decide +kernel, rfl⟩
theorem d_Ward_sortLoads_11 : Dc b_Ward_sortLoads 11 (.invokevirtual 391) 3 14 := ⟨by decide +kernel, rfl⟩
theorem d_Ward_sortLoads_14 : Dc b_Ward_sortLoads 14 (.iconst 0) 1 15 := ⟨by decide +kernel, rfl⟩
theorem d_Ward_sortLoads_15 : Dc b_Ward_sortLoads 15 (.istore_n 1) 1 16 := ⟨by decide +kernel, rfl⟩
theorem d_Ward_sortLoads_16 : Dc b_Ward_sortLoads 16 (.iload_n 1) 1 17 := ⟨by decide +kernel, rfl⟩
theorem d_Ward_sortLoads_17 : Dc b_Ward_sortLoads 17 (.iconst 3) 1 18 := ⟨by decide +kernel, rfl⟩
theorem d_Ward_sortLoads_18 : Dj b_Ward_sortLoads 18 (.if_icmp .ge) 86 21 := ⟨68, by decide +kernel, by decide, rfl⟩
theorem d_Ward_sortLoads_21 : Dc b_Ward_sortLoads 21 (.iconst 0) 1 22 := ⟨by decide +kernel, rfl⟩
theorem d_Ward_sortLoads_22 : Dc b_Ward_sortLoads 22 (.istore_n 2) 1 23 := ⟨by decide +kernel, rfl⟩
theorem d_Ward_sortLoads_23 : Dc b_Ward_sortLoads 23 (.iload_n 2) 1 24 := ⟨by decide +kernel, rfl⟩
theorem d_Ward_sortLoads_24 : Dc b_Ward_sortLoads 24 (.aload_n 0) 1 25 := ⟨by decide +kernel, rfl⟩
theorem d_Ward_sortLoads_25 : Dc b_Ward_sortLoads 25 (.getfield 115) 3 28 := ⟨by decide +kernel, rfl⟩
theorem d_Ward_sortLoads_28 : Dj b_Ward_sortLoads 28 (.if_icmp .ge) 80 31 := ⟨52, by decide +kernel, by decide, rfl⟩
theorem d_Ward_sortLoads_31 : Dc b_Ward_sortLoads 31 (.iconst 0) 1 32 := ⟨by decide +kernel, rfl⟩
theorem d_Ward_sortLoads_32 : Dc b_Ward_sortLoads 32 (.istore_n 3) 1 33 := ⟨by decide +kernel, rfl⟩
theorem d_Ward_sortLoads_33 : Dc b_Ward_sortLoads 33 (.iload_n 3) 1 34 := ⟨by decide +kernel, rfl⟩
theorem d_Ward_sortLoads_34 : Dc b_Ward_sortLoads 34 (.iconst 2) 1 35 := ⟨by decide +kernel, rfl⟩
theorem d_Ward_sortLoads_35 : Dj b_Ward_sortLoads 35 (.if_icmp .ge) 74 38 := ⟨39, by decide +kernel, by decide, rfl⟩
theorem d_Ward_sortLoads_38 : Dc b_Ward_sortLoads 38 (.aload_n 0) 1 39 := ⟨by decide +kernel, rfl⟩
theorem d_Ward_sortLoads_39 : Dc b_Ward_sortLoads 39 (.getfield 20) 3 42 := ⟨by decide +kernel, rfl⟩
theorem d_Ward_sortLoads_42 : Dc b_Ward_sortLoads 42 (.iload_n 2) 1 43 := ⟨by decide +kernel, rfl⟩
theorem d_Ward_sortLoads_43 : Dc b_Ward_sortLoads 43 .aaload 1 44 := ⟨by decide +kernel, rfl⟩
theorem d_Ward_sortLoads_44 : Dc b_Ward_sortLoads 44 (.getfield 123) 3 47 := ⟨by decide +kernel, rfl⟩
theorem d_Ward_sortLoads_47 : Dc b_Ward_sortLoads 47 (.iload_n 3) 1 48 := ⟨by decide +kernel, rfl⟩
theorem d_Ward_sortLoads_48 : Dc b_Ward_sortLoads 48 .iaload 1 49 := ⟨by decide +kernel, rfl⟩
theorem d_Ward_sortLoads_49 : Dc b_Ward_sortLoads 49 (.iload_n 1) 1 50 := ⟨by decide +kernel, rfl⟩
theorem d_Ward_sortLoads_50 : Dj b_Ward_sortLoads 50 (.if_icmp .ne) 68 53 := ⟨18, by decide +kernel, by decide, rfl⟩
theorem d_Ward_sortLoads_53 : Dc b_Ward_sortLoads 53 (.aload_n 0) 1 54 := ⟨by decide +kernel, rfl⟩
theorem d_Ward_sortLoads_54 : Dc b_Ward_sortLoads 54 (.iload_n 1) 1 55 := ⟨by decide +kernel, rfl⟩
theorem d_Ward_sortLoads_55 : Dc b_Ward_sortLoads 55 (.aload_n 0) 1 56 := ⟨by decide +kernel, rfl⟩
theorem d_Ward_sortLoads_56 : Dc b_Ward_sortLoads 56 (.getfield 20) 3 59 := ⟨by decide +kernel, rfl⟩
theorem d_Ward_sortLoads_59 : Dc b_Ward_sortLoads 59 (.iload_n 2) 1 60 := ⟨by decide +kernel, rfl⟩
theorem d_Ward_sortLoads_60 : Dc b_Ward_sortLoads 60 .aaload 1 61 := ⟨by decide +kernel, rfl⟩
theorem d_Ward_sortLoads_61 : Dc b_Ward_sortLoads 61 (.getfield 370) 3 64 := ⟨by decide +kernel, rfl⟩
theorem d_Ward_sortLoads_64 : Dc b_Ward_sortLoads 64 (.iload_n 3) 1 65 := ⟨by decide +kernel, rfl⟩
theorem d_Ward_sortLoads_65 : Dc b_Ward_sortLoads 65 (.invokevirtual 392) 3 68 := ⟨by decide +kernel, rfl⟩
theorem d_Ward_sortLoads_68 : Dc b_Ward_sortLoads 68 (.iinc 3 1) 3 71 := ⟨by decide +kernel, rfl⟩
theorem d_Ward_sortLoads_71 : Dj b_Ward_sortLoads 71 .goto 33 74 := ⟨-38, by decide +kernel, by decide, rfl⟩
theorem d_Ward_sortLoads_74 : Dc b_Ward_sortLoads 74 (.iinc 2 1) 3 77 := ⟨by decide +kernel, rfl⟩
theorem d_Ward_sortLoads_77 : Dj b_Ward_sortLoads 77 .goto 23 80 := ⟨-54, by decide +kernel, by decide, rfl⟩
theorem d_Ward_sortLoads_80 : Dc b_Ward_sortLoads 80 (.iinc 1 1) 3 83 := ⟨by decide +kernel, rfl⟩
theorem d_Ward_sortLoads_83 : Dj b_Ward_sortLoads 83 .goto 16 86 := ⟨-67, by decide +kernel, by decide, rfl⟩
theorem d_Ward_sortLoads_86 : Dc b_Ward_sortLoads 86 .return_ 1 87 := ⟨by decide +kernel, rfl⟩
abbrev b_Ward_street : ByteArray := prog_1_method_2_code
def y_Ward_street : MethodName := ⟨"BinWard", "street", "(II)I"⟩
theorem d_Ward_street_0 : Dc b_Ward_street 0 (.iload_n 1) 1 1 := ⟨by decide +kernel, rfl⟩
theorem d_Ward_street_1 : Dc b_Ward_street 1 (.iconst 1) 1 2 := ⟨by decide +kernel, rfl⟩
theorem d_Ward_street_2 : Dc b_Ward_street 2 (.bipush 30) 2 4 := ⟨by decide +kernel, rfl⟩
theorem d_Ward_street_4 : Dc b_Ward_street 4 (.invokestatic 82) 3 7 := ⟨by decide +kernel, rfl⟩
theorem d_Ward_street_7 : Dc b_Ward_street 7 (.iload_n 2) 1 8 := ⟨by decide +kernel, rfl⟩
theorem d_Ward_street_8 : Dc b_Ward_street 8 (.iconst 0) 1 9 := ⟨by decide +kernel, rfl⟩
theorem d_Ward_street_9 : Dc b_Ward_street 9 (.iconst 4) 1 10 := ⟨by decide +kernel, rfl⟩
theorem d_Ward_street_10 : Dc b_Ward_street 10 (.invokestatic 82) 3 13 := ⟨by decide +kernel, rfl⟩
theorem d_Ward_street_13 : Dc b_Ward_street 13 (.aload_n 0) 1 14 := ⟨by decide +kernel, rfl⟩
theorem d_Ward_street_14 : Dc b_Ward_street 14 (.getfield 86) 3 17 := ⟨by decide +kernel, rfl⟩
theorem d_Ward_street_17 : Dc b_Ward_street 17 (.bipush 6) 2 19 := ⟨by decide +kernel, rfl⟩
theorem d_Ward_street_19 : Dj b_Ward_street 19 (.if_icmp .lt) 32 22 := ⟨13, by decide +kernel, by decide, rfl⟩
theorem d_Ward_street_22 : Dc b_Ward_street 22 (.new 90) 3 25 := ⟨by decide +kernel, rfl⟩
theorem d_Ward_street_25 : Dc b_Ward_street 25 .dup 1 26 := ⟨by decide +kernel, rfl⟩
theorem d_Ward_street_26 : Dc b_Ward_street 26 (.ldc 92) 2 28 := ⟨by decide +kernel, rfl⟩
theorem d_Ward_street_28 : Dc b_Ward_street 28 (.invokespecial 94) 3 31 := ⟨by decide +kernel, rfl⟩
theorem d_Ward_street_31 : Dc b_Ward_street 31 .athrow 1 32 := ⟨by decide +kernel, rfl⟩
theorem d_Ward_street_32 : Dc b_Ward_street 32 (.aload_n 0) 1 33 := ⟨by decide +kernel, rfl⟩
theorem d_Ward_street_33 : Dc b_Ward_street 33 (.getfield 11) 3 36 := ⟨by decide +kernel, rfl⟩
theorem d_Ward_street_36 : Dc b_Ward_street 36 (.aload_n 0) 1 37 := ⟨by decide +kernel, rfl⟩
theorem d_Ward_street_37 : Dc b_Ward_street 37 (.getfield 86) 3 40 := ⟨by decide +kernel, rfl⟩
theorem d_Ward_street_40 : Dc b_Ward_street 40 .aaload 1 41 := ⟨by decide +kernel, rfl⟩
theorem d_Ward_street_41 : Dc b_Ward_street 41 (.astore_n 3) 1 42 := ⟨by decide +kernel, rfl⟩
theorem d_Ward_street_42 : Dc b_Ward_street 42 (.aload_n 3) 1 43 := ⟨by decide +kernel, rfl⟩
theorem d_Ward_street_43 : Dc b_Ward_street 43 (.iload_n 1) 1 44 := ⟨by decide +kernel, rfl⟩
theorem d_Ward_street_44 : Dc b_Ward_street 44 (.putfield 97) 3 47 := ⟨by decide +kernel, rfl⟩
theorem d_Ward_street_47 : Dc b_Ward_street 47 (.aload_n 3) 1 48 := ⟨by decide +kernel, rfl⟩
theorem d_Ward_street_48 : Dc b_Ward_street 48 (.iload_n 2) 1 49 := ⟨by decide +kernel, rfl⟩
theorem d_Ward_street_49 : Dc b_Ward_street 49 (.putfield 100) 3 52 := ⟨by decide +kernel, rfl⟩
theorem d_Ward_street_52 : Dc b_Ward_street 52 (.aload_n 0) 1 53 := ⟨by decide +kernel, rfl⟩
theorem d_Ward_street_53 : Dc b_Ward_street 53 .dup 1 54 := ⟨by decide +kernel, rfl⟩
theorem d_Ward_street_54 : Dc b_Ward_street 54 (.getfield 86) 3 57 := ⟨by decide +kernel, rfl⟩
theorem d_Ward_street_57 : Dc b_Ward_street 57 (.iconst 1) 1 58 := ⟨by decide +kernel, rfl⟩
theorem d_Ward_street_58 : Dc b_Ward_street 58 .iadd 1 59 := ⟨by decide +kernel, rfl⟩
theorem d_Ward_street_59 : Dc b_Ward_street 59 (.putfield 86) 3 62 := ⟨by decide +kernel, rfl⟩
theorem d_Ward_street_62 : Dc b_Ward_street 62 (.aload_n 0) 1 63 := ⟨by decide +kernel, rfl⟩
theorem d_Ward_street_63 : Dc b_Ward_street 63 (.getfield 86) 3 66 := ⟨by decide +kernel, rfl⟩
theorem d_Ward_street_66 : Dc b_Ward_street 66 (.iconst 1) 1 67 := ⟨by decide +kernel, rfl⟩
theorem d_Ward_street_67 : Dc b_Ward_street 67 .isub 1 68 := ⟨by decide +kernel, rfl⟩
theorem d_Ward_street_68 : Dc b_Ward_street 68 .ireturn 1 69 := ⟨by decide +kernel, rfl⟩
abbrev b_Ward_streetAt : ByteArray := prog_1_method_39_code
def y_Ward_streetAt : MethodName := ⟨"BinWard", "streetAt", "(I)LBinWard$Street;"⟩
theorem d_Ward_streetAt_0 : Dc b_Ward_streetAt 0 (.iload_n 1) 1 1 := ⟨by decide +kernel, rfl⟩
theorem d_Ward_streetAt_1 : Dc b_Ward_streetAt 1 (.aload_n 0) 1 2 := ⟨by decide +kernel, rfl⟩
theorem d_Ward_streetAt_2 : Dc b_Ward_streetAt 2 (.getfield 86) 3 5 := ⟨by decide +kernel, rfl⟩
theorem d_Ward_streetAt_5 : Dc b_Ward_streetAt 5 (.invokestatic 107) 3 8 := ⟨by decide +kernel, rfl⟩
theorem d_Ward_streetAt_8 : Dc b_Ward_streetAt 8 (.aload_n 0) 1 9 := ⟨by decide +kernel, rfl⟩
theorem d_Ward_streetAt_9 : Dc b_Ward_streetAt 9 (.getfield 11) 3 12 := ⟨by decide +kernel, rfl⟩
theorem d_Ward_streetAt_12 : Dc b_Ward_streetAt 12 (.iload_n 1) 1 13 := ⟨by decide +kernel, rfl⟩
theorem d_Ward_streetAt_13 : Dc b_Ward_streetAt 13 .aaload 1 14 := ⟨by decide +kernel, rfl⟩
theorem d_Ward_streetAt_14 : Dc b_Ward_streetAt 14 .areturn 1 15 := ⟨by decide +kernel, rfl⟩
abbrev b_Ward_sweep : ByteArray := prog_1_method_14_code
def y_Ward_sweep : MethodName := ⟨"BinWard", "sweep", "(I)I"⟩
theorem d_Ward_sweep_0 : Dc b_Ward_sweep 0 (.aload_n 0) 1 1 := ⟨by decide +kernel, rfl⟩
theorem d_Ward_sweep_1 : Dc b_Ward_sweep 1 (.iload_n 1) 1 2 := ⟨by decide +kernel, rfl⟩
theorem d_Ward_sweep_2 : Dc b_Ward_sweep 2 (.invokevirtual 103) 3 5 := ⟨by decide +kernel, rfl⟩
theorem d_Ward_sweep_5 : Dc b_Ward_sweep 5 (.astore_n 2) 1 6 := ⟨by decide +kernel, rfl⟩
theorem d_Ward_sweep_6 : Dc b_Ward_sweep 6 (.aload_n 2) 1 7 := ⟨by decide +kernel, rfl⟩
theorem d_Ward_sweep_7 : Dc b_Ward_sweep 7 (.getfield 181) 3 10 := ⟨by decide +kernel, rfl⟩
theorem d_Ward_sweep_10 : Dc b_Ward_sweep 10 (.istore_n 3) 1 11 := ⟨by decide +kernel, rfl⟩
theorem d_Ward_sweep_11 : Dc b_Ward_sweep 11 (.aload_n 2) 1 12 := ⟨by decide +kernel, rfl⟩
theorem d_Ward_sweep_12 : Dc b_Ward_sweep 12 (.iconst 0) 1 13 := ⟨by decide +kernel, rfl⟩
theorem d_Ward_sweep_13 : Dc b_Ward_sweep 13 (.putfield 181) 3 16 := ⟨by decide +kernel, rfl⟩
theorem d_Ward_sweep_16 : Dc b_Ward_sweep 16 (.aload_n 0) 1 17 := ⟨by decide +kernel, rfl⟩
theorem d_Ward_sweep_17 : Dc b_Ward_sweep 17 (.getfield 76) 3 20 := ⟨by decide +kernel, rfl⟩
theorem d_Ward_sweep_20 : Dc b_Ward_sweep 20 (.iload_n 3) 1 21 := ⟨by decide +kernel, rfl⟩
theorem d_Ward_sweep_21 : Dc b_Ward_sweep 21 (.iload_n 3) 1 22 := ⟨by decide +kernel, rfl⟩
theorem d_Ward_sweep_22 : Dc b_Ward_sweep 22 (.iconst 2) 1 23 := ⟨by decide +kernel, rfl⟩
theorem d_Ward_sweep_23 : Dc b_Ward_sweep 23 .idiv 1 24 := ⟨by decide +kernel, rfl⟩
theorem d_Ward_sweep_24 : Dc b_Ward_sweep 24 (.invokevirtual 184) 3 27 := ⟨by decide +kernel, rfl⟩
theorem d_Ward_sweep_27 : Dc b_Ward_sweep 27 (.iload_n 3) 1 28 := ⟨by decide +kernel, rfl⟩
theorem d_Ward_sweep_28 : Dc b_Ward_sweep 28 .ireturn 1 29 := ⟨by decide +kernel, rfl⟩
abbrev b_Ward_wouldLie : ByteArray := prog_1_method_25_code
def y_Ward_wouldLie : MethodName := ⟨"BinWard", "wouldLie", "(I)I"⟩
theorem d_Ward_wouldLie_0 : Dc b_Ward_wouldLie 0 (.iload_n 1) 1 1 := ⟨by decide +kernel, rfl⟩
theorem d_Ward_wouldLie_1 : Dc b_Ward_wouldLie 1 (.iconst 1) 1 2 := ⟨by decide +kernel, rfl⟩
theorem d_Ward_wouldLie_2 : Dc b_Ward_wouldLie 2 (.bipush 30) 2 4 := ⟨by decide +kernel, rfl⟩
theorem d_Ward_wouldLie_4 : Dc b_Ward_wouldLie 4 (.invokestatic 82) 3 7 := ⟨by decide +kernel, rfl⟩
theorem d_Ward_wouldLie_7 : Dc b_Ward_wouldLie 7 (.iconst 0) 1 8 := ⟨by decide +kernel, rfl⟩
theorem d_Ward_wouldLie_8 : Dc b_Ward_wouldLie 8 (.istore_n 2) 1 9 := ⟨by decide +kernel, rfl⟩
theorem d_Ward_wouldLie_9 : Dc b_Ward_wouldLie 9 (.iload_n 2) 1 10 := ⟨by decide +kernel, rfl⟩
theorem d_Ward_wouldLie_10 : Dc b_Ward_wouldLie 10 (.aload_n 0) 1 11 := ⟨by decide +kernel, rfl⟩
theorem d_Ward_wouldLie_11 : Dc b_Ward_wouldLie 11 (.getfield 86) 3 14 := ⟨by decide +kernel, rfl⟩
theorem d_Ward_wouldLie_14 : Dj b_Ward_wouldLie 14 (.if_icmp .ge) 38 17 := ⟨24, by decide +kernel, by decide, rfl⟩
theorem d_Ward_wouldLie_17 : Dc b_Ward_wouldLie 17 (.aload_n 0) 1 18 := ⟨by decide +kernel, rfl⟩
theorem d_Ward_wouldLie_18 : Dc b_Ward_wouldLie 18 (.getfield 15) 3 21 := ⟨by decide +kernel, rfl⟩
theorem d_Ward_wouldLie_21 : Dc b_Ward_wouldLie 21 (.iload_n 2) 1 22 := ⟨by decide +kernel, rfl⟩
theorem d_Ward_wouldLie_22 : Dc b_Ward_wouldLie 22 .aaload 1 23 := ⟨by decide +kernel, rfl⟩
theorem d_Ward_wouldLie_23 : Dc b_Ward_wouldLie 23 (.aload_n 0) 1 24 := ⟨by decide +kernel, rfl⟩
theorem d_Ward_wouldLie_24 : Dc b_Ward_wouldLie 24 (.getfield 11) 3 27 := ⟨by decide +kernel, rfl⟩
theorem d_Ward_wouldLie_27 : Dc b_Ward_wouldLie 27 (.iload_n 2) 1 28 := ⟨by decide +kernel, rfl⟩
theorem d_Ward_wouldLie_28 : Dc b_Ward_wouldLie 28 .aaload 1 29 := ⟨by decide +kernel, rfl⟩
theorem d_Ward_wouldLie_29 : Dc b_Ward_wouldLie 29 (.invokevirtual 302) 3 32 := ⟨by decide +kernel, rfl⟩
theorem d_Ward_wouldLie_32 : Dc b_Ward_wouldLie 32 (.iinc 2 1) 3 35 := ⟨by decide +kernel, rfl⟩
theorem d_Ward_wouldLie_35 : Dj b_Ward_wouldLie 35 .goto 9 38 := ⟨-26, by decide +kernel, by decide, rfl⟩
theorem d_Ward_wouldLie_38 : Dc b_Ward_wouldLie 38 (.iconst 1) 1 39 := ⟨by decide +kernel, rfl⟩
theorem d_Ward_wouldLie_39 : Dc b_Ward_wouldLie 39 (.istore_n 2) 1 40 := ⟨by decide +kernel, rfl⟩
theorem d_Ward_wouldLie_40 : Dc b_Ward_wouldLie 40 (.iload_n 2) 1 41 := ⟨by decide +kernel, rfl⟩
theorem d_Ward_wouldLie_41 : Dc b_Ward_wouldLie 41 (.iload_n 1) 1 42 := ⟨by decide +kernel, rfl⟩
theorem d_Ward_wouldLie_42 : Dj b_Ward_wouldLie 42 (.if_icmp .gt) 108 45 := ⟨66, by decide +kernel, by decide, rfl⟩
theorem d_Ward_wouldLie_45 : Dc b_Ward_wouldLie 45 (.aload_n 0) 1 46 := ⟨by decide +kernel, rfl⟩
theorem d_Ward_wouldLie_46 : Dc b_Ward_wouldLie 46 (.aload_n 0) 1 47 := ⟨by decide +kernel, rfl⟩
theorem d_Ward_wouldLie_47 : Dc b_Ward_wouldLie 47 (.getfield 15) 3 50 := ⟨by decide +kernel, rfl⟩
theorem d_Ward_wouldLie_50 : Dc b_Ward_wouldLie 50 (.invokevirtual 306) 3 53 := ⟨by decide +kernel, rfl⟩
theorem d_Ward_wouldLie_53 : Dc b_Ward_wouldLie 53 (.aload_n 0) 1 54 := ⟨by decide +kernel, rfl⟩
theorem d_Ward_wouldLie_54 : Dc b_Ward_wouldLie 54 (.getfield 187) 3 57 := ⟨by decide +kernel, rfl⟩
theorem d_Ward_wouldLie_57 : Dc b_Ward_wouldLie 57 (.iload_n 2) 1 58 := ⟨by decide +kernel, rfl⟩
theorem d_Ward_wouldLie_58 : Dc b_Ward_wouldLie 58 .iadd 1 59 := ⟨by decide +kernel, rfl⟩
theorem d_Ward_wouldLie_59 : Dc b_Ward_wouldLie 59 (.bipush 7) 2 61 := ⟨by decide +kernel, rfl⟩
theorem d_Ward_wouldLie_61 : Dc b_Ward_wouldLie 61 (.invokestatic 310) 3 64 := ⟨by decide +kernel, rfl⟩
theorem d_Ward_wouldLie_64 : Dc b_Ward_wouldLie 64 (.istore_n 3) 1 65 := ⟨by decide +kernel, rfl⟩
theorem d_Ward_wouldLie_65 : Dc b_Ward_wouldLie 65 (.iconst 0) 1 66 := ⟨by decide +kernel, rfl⟩
theorem d_Ward_wouldLie_66 : Dc b_Ward_wouldLie 66 (.istore 4) 2 68 := ⟨by decide +kernel, rfl⟩
theorem d_Ward_wouldLie_68 : Dc b_Ward_wouldLie 68 (.iload 4) 2 70 := ⟨by decide +kernel, rfl⟩
theorem d_Ward_wouldLie_70 : Dc b_Ward_wouldLie 70 (.aload_n 0) 1 71 := ⟨by decide +kernel, rfl⟩
theorem d_Ward_wouldLie_71 : Dc b_Ward_wouldLie 71 (.getfield 115) 3 74 := ⟨by decide +kernel, rfl⟩
theorem d_Ward_wouldLie_74 : Dj b_Ward_wouldLie 74 (.if_icmp .ge) 102 77 := ⟨28, by decide +kernel, by decide, rfl⟩
theorem d_Ward_wouldLie_77 : Dc b_Ward_wouldLie 77 (.aload_n 0) 1 78 := ⟨by decide +kernel, rfl⟩
theorem d_Ward_wouldLie_78 : Dc b_Ward_wouldLie 78 (.getfield 27) 3 81 := ⟨by decide +kernel, rfl⟩
theorem d_Ward_wouldLie_81 : Dc b_Ward_wouldLie 81 (.aload_n 0) 1 82 := ⟨by decide +kernel, rfl⟩
theorem d_Ward_wouldLie_82 : Dc b_Ward_wouldLie 82 (.getfield 20) 3 85 := ⟨by decide +kernel, rfl⟩
theorem d_Ward_wouldLie_85 : Dc b_Ward_wouldLie 85 (.iload 4) 2 87 := ⟨by decide +kernel, rfl⟩
theorem d_Ward_wouldLie_87 : Dc b_Ward_wouldLie 87 .aaload 1 88 := ⟨by decide +kernel, rfl⟩
theorem d_Ward_wouldLie_88 : Dc b_Ward_wouldLie 88 (.iload_n 3) 1 89 := ⟨by decide +kernel, rfl⟩
theorem d_Ward_wouldLie_89 : Dc b_Ward_wouldLie 89 (.aload_n 0) 1 90 := ⟨by decide +kernel, rfl⟩
theorem d_Ward_wouldLie_90 : Dc b_Ward_wouldLie 90 (.getfield 15) 3 93 := ⟨by decide +kernel, rfl⟩
theorem d_Ward_wouldLie_93 : Dc b_Ward_wouldLie 93 (.invokevirtual 315) 3 96 := ⟨by decide +kernel, rfl⟩
theorem d_Ward_wouldLie_96 : Dc b_Ward_wouldLie 96 (.iinc 4 1) 3 99 := ⟨by decide +kernel, rfl⟩
theorem d_Ward_wouldLie_99 : Dj b_Ward_wouldLie 99 .goto 68 102 := ⟨-31, by decide +kernel, by decide, rfl⟩
theorem d_Ward_wouldLie_102 : Dc b_Ward_wouldLie 102 (.iinc 2 1) 3 105 := ⟨by decide +kernel, rfl⟩
theorem d_Ward_wouldLie_105 : Dj b_Ward_wouldLie 105 .goto 40 108 := ⟨-65, by decide +kernel, by decide, rfl⟩
theorem d_Ward_wouldLie_108 : Dc b_Ward_wouldLie 108 (.aload_n 0) 1 109 := ⟨by decide +kernel, rfl⟩
theorem d_Ward_wouldLie_109 : Dc b_Ward_wouldLie 109 (.aload_n 0) 1 110 := ⟨by decide +kernel, rfl⟩
theorem d_Ward_wouldLie_110 : Dc b_Ward_wouldLie 110 (.getfield 15) 3 113 := ⟨by decide +kernel, rfl⟩
theorem d_Ward_wouldLie_113 : Dc b_Ward_wouldLie 113 (.invokevirtual 275) 3 116 := ⟨by decide +kernel, rfl⟩
theorem d_Ward_wouldLie_116 : Dc b_Ward_wouldLie 116 .ireturn 1 117 := ⟨by decide +kernel, rfl⟩
abbrev b_Diary_has : ByteArray := prog_4_method_5_code
def y_Diary_has : MethodName := ⟨"BinWard$Diary", "has", "(II)Z"⟩
theorem d_Diary_has_0 : Dc b_Diary_has 0 (.iload_n 1) 1 1 := ⟨by decide +kernel, rfl⟩
theorem d_Diary_has_1 : Dj b_Diary_has 1 (.ifCond .lt) 28 4 := ⟨27, by decide +kernel, by decide, rfl⟩
theorem d_Diary_has_4 : Dc b_Diary_has 4 (.iload_n 1) 1 5 := ⟨by decide +kernel, rfl⟩
theorem d_Diary_has_5 : Dc b_Diary_has 5 (.aload_n 0) 1 6 := ⟨by decide +kernel, rfl⟩
theorem d_Diary_has_6 : Dc b_Diary_has 6 (.getfield 9) 3 9 := ⟨by decide +kernel, rfl⟩
theorem d_Diary_has_9 : Dc b_Diary_has 9 .arraylength 1 10 := ⟨by decide +kernel, rfl⟩
theorem d_Diary_has_10 : Dj b_Diary_has 10 (.if_icmp .ge) 28 13 := ⟨18, by decide +kernel, by decide, rfl⟩
theorem d_Diary_has_13 : Dc b_Diary_has 13 (.aload_n 0) 1 14 := ⟨by decide +kernel, rfl⟩
theorem d_Diary_has_14 : Dc b_Diary_has 14 (.getfield 9) 3 17 := ⟨by decide +kernel, rfl⟩
theorem d_Diary_has_17 : Dc b_Diary_has 17 (.iload_n 1) 1 18 := ⟨by decide +kernel, rfl⟩
theorem d_Diary_has_18 : Dc b_Diary_has 18 .iaload 1 19 := ⟨by decide +kernel, rfl⟩
theorem d_Diary_has_19 : Dc b_Diary_has 19 (.iload_n 2) 1 20 := ⟨by decide +kernel, rfl⟩
theorem d_Diary_has_20 : Dc b_Diary_has 20 .iand 1 21 := ⟨by decide +kernel, rfl⟩
theorem d_Diary_has_21 : Dj b_Diary_has 21 (.ifCond .eq) 28 24 := ⟨7, by decide +kernel, by decide, rfl⟩
theorem d_Diary_has_24 : Dc b_Diary_has 24 (.iconst 1) 1 25 := ⟨by decide +kernel, rfl⟩
theorem d_Diary_has_25 : Dj b_Diary_has 25 .goto 29 28 := ⟨4, by decide +kernel, by decide, rfl⟩
theorem d_Diary_has_28 : Dc b_Diary_has 28 (.iconst 0) 1 29 := ⟨by decide +kernel, rfl⟩
theorem d_Diary_has_29 : Dc b_Diary_has 29 .ireturn 1 30 := ⟨by decide +kernel, rfl⟩
abbrev b_Diary_init : ByteArray := prog_4_method_1_code
def y_Diary_init : MethodName := ⟨"BinWard$Diary", "<init>", "()V"⟩
theorem d_Diary_init_0 : Dc b_Diary_init 0 (.aload_n 0) 1 1 := ⟨by decide +kernel, rfl⟩
theorem d_Diary_init_1 : Dc b_Diary_init 1 (.invokespecial 3) 3 4 := ⟨by decide +kernel, rfl⟩
theorem d_Diary_init_4 : Dc b_Diary_init 4 (.aload_n 0) 1 5 := ⟨by decide +kernel, rfl⟩
theorem d_Diary_init_5 : Dc b_Diary_init 5 (.bipush 32) 2 7 := ⟨by decide +kernel, rfl⟩
theorem d_Diary_init_7 : Dc b_Diary_init 7 (.newarray .int) 2 9 := ⟨by decide +kernel, rfl⟩
theorem d_Diary_init_9 : Dc b_Diary_init 9 (.putfield 9) 3 12 := ⟨by decide +kernel, rfl⟩
theorem d_Diary_init_12 : Dc b_Diary_init 12 .return_ 1 13 := ⟨by decide +kernel, rfl⟩
abbrev b_Diary_missed : ByteArray := prog_4_method_2_code
def y_Diary_missed : MethodName := ⟨"BinWard$Diary", "missed", "(I)I"⟩
theorem d_Diary_missed_0 : Dc b_Diary_missed 0 (.iconst 1) 1 1 := ⟨by decide +kernel, rfl⟩
theorem d_Diary_missed_1 : Dc b_Diary_missed 1 (.iload_n 0) 1 2 := ⟨by decide +kernel, rfl⟩
theorem d_Diary_missed_2 : Dc b_Diary_missed 2 .ishl 1 3 := ⟨by decide +kernel, rfl⟩
theorem d_Diary_missed_3 : Dc b_Diary_missed 3 .ireturn 1 4 := ⟨by decide +kernel, rfl⟩
abbrev b_Diary_note : ByteArray := prog_4_method_6_code
def y_Diary_note : MethodName := ⟨"BinWard$Diary", "note", "(II)V"⟩
theorem d_Diary_note_0 : Dc b_Diary_note 0 (.iload_n 1) 1 1 := ⟨by decide +kernel, rfl⟩
theorem d_Diary_note_1 : Dj b_Diary_note 1 (.ifCond .lt) 23 4 := ⟨22, by decide +kernel, by decide, rfl⟩
theorem d_Diary_note_4 : Dc b_Diary_note 4 (.iload_n 1) 1 5 := ⟨by decide +kernel, rfl⟩
theorem d_Diary_note_5 : Dc b_Diary_note 5 (.aload_n 0) 1 6 := ⟨by decide +kernel, rfl⟩
theorem d_Diary_note_6 : Dc b_Diary_note 6 (.getfield 9) 3 9 := ⟨by decide +kernel, rfl⟩
theorem d_Diary_note_9 : Dc b_Diary_note 9 .arraylength 1 10 := ⟨by decide +kernel, rfl⟩
theorem d_Diary_note_10 : Dj b_Diary_note 10 (.if_icmp .ge) 23 13 := ⟨13, by decide +kernel, by decide, rfl⟩
theorem d_Diary_note_13 : Dc b_Diary_note 13 (.aload_n 0) 1 14 := ⟨by decide +kernel, rfl⟩
theorem d_Diary_note_14 : Dc b_Diary_note 14 (.getfield 9) 3 17 := ⟨by decide +kernel, rfl⟩
theorem d_Diary_note_17 : Dc b_Diary_note 17 (.iload_n 1) 1 18 := ⟨by decide +kernel, rfl⟩
theorem d_Diary_note_18 : Dc b_Diary_note 18 .dup2 1 19 := ⟨by decide +kernel, rfl⟩
theorem d_Diary_note_19 : Dc b_Diary_note 19 .iaload 1 20 := ⟨by decide +kernel, rfl⟩
theorem d_Diary_note_20 : Dc b_Diary_note 20 (.iload_n 2) 1 21 := ⟨by decide +kernel, rfl⟩
theorem d_Diary_note_21 : Dc b_Diary_note 21 .ior 1 22 := ⟨by decide +kernel, rfl⟩
theorem d_Diary_note_22 : Dc b_Diary_note 22 .iastore 1 23 := ⟨by decide +kernel, rfl⟩
theorem d_Diary_note_23 : Dc b_Diary_note 23 .return_ 1 24 := ⟨by decide +kernel, rfl⟩
abbrev b_Diary_reach : ByteArray := prog_4_method_4_code
def y_Diary_reach : MethodName := ⟨"BinWard$Diary", "reach", "(I)V"⟩
theorem d_Diary_reach_0 : Dc b_Diary_reach 0 (.iload_n 1) 1 1 := ⟨by decide +kernel, rfl⟩
theorem d_Diary_reach_1 : Dc b_Diary_reach 1 (.aload_n 0) 1 2 := ⟨by decide +kernel, rfl⟩
theorem d_Diary_reach_2 : Dc b_Diary_reach 2 (.getfield 9) 3 5 := ⟨by decide +kernel, rfl⟩
theorem d_Diary_reach_5 : Dc b_Diary_reach 5 .arraylength 1 6 := ⟨by decide +kernel, rfl⟩
theorem d_Diary_reach_6 : Dj b_Diary_reach 6 (.if_icmp .lt) 38 9 := ⟨32, by decide +kernel, by decide, rfl⟩
theorem d_Diary_reach_9 : Dc b_Diary_reach 9 (.aload_n 0) 1 10 := ⟨by decide +kernel, rfl⟩
theorem d_Diary_reach_10 : Dc b_Diary_reach 10 (.getfield 9) 3 13 := ⟨by decide +kernel, rfl⟩
theorem d_Diary_reach_13 : Dc b_Diary_reach 13 .arraylength 1 14 := ⟨by decide +kernel, rfl⟩
theorem d_Diary_reach_14 : Dc b_Diary_reach 14 (.sipush 15360) 3 17 := ⟨by decide +kernel, rfl⟩
theorem d_Diary_reach_17 : Dj b_Diary_reach 17 (.if_icmp .gt) 38 20 := ⟨21, by decide +kernel, by decide, rfl⟩
theorem d_Diary_reach_20 : Dc b_Diary_reach 20 (.aload_n 0) 1 21 := ⟨by decide +kernel, rfl⟩
theorem d_Diary_reach_21 : Dc b_Diary_reach 21 (.aload_n 0) 1 22 := ⟨by decide +kernel, rfl⟩
theorem d_Diary_reach_22 : Dc b_Diary_reach 22 (.getfield 9) 3 25 := ⟨by decide +kernel, rfl⟩
theorem d_Diary_reach_25 : Dc b_Diary_reach 25 (.iconst 2) 1 26 := ⟨by decide +kernel, rfl⟩
theorem d_Diary_reach_26 : Dc b_Diary_reach 26 (.aload_n 0) 1 27 := ⟨by decide +kernel, rfl⟩
theorem d_Diary_reach_27 : Dc b_Diary_reach 27 (.getfield 9) 3 30 := ⟨by decide +kernel, rfl⟩
theorem d_Diary_reach_30 : Dc b_Diary_reach 30 .arraylength 1 31 := ⟨by decide +kernel, rfl⟩
theorem d_Diary_reach_31 : Dc b_Diary_reach 31 .imul 1 32 := ⟨by decide +kernel, rfl⟩
theorem d_Diary_reach_32 : Dc b_Diary_reach 32 (.invokestatic 15) 3 35 := ⟨by decide +kernel, rfl⟩
theorem d_Diary_reach_35 : Dc b_Diary_reach 35 (.putfield 9) 3 38 := ⟨by decide +kernel, rfl⟩
theorem d_Diary_reach_38 : Dc b_Diary_reach 38 .return_ 1 39 := ⟨by decide +kernel, rfl⟩
abbrev b_Furnace_burn : ByteArray := prog_5_method_3_code
def y_Furnace_burn : MethodName := ⟨"BinWard$Furnace", "burn", "(ILBinWard$Pit;)V"⟩
theorem d_Furnace_burn_0 : Dc b_Furnace_burn 0 (.iload_n 1) 1 1 := ⟨by decide +kernel, rfl⟩
theorem d_Furnace_burn_1 : Dc b_Furnace_burn 1 (.aload_n 0) 1 2 := ⟨by decide +kernel, rfl⟩
theorem d_Furnace_burn_2 : Dc b_Furnace_burn 2 (.getfield 13) 3 5 := ⟨by decide +kernel, rfl⟩
theorem d_Furnace_burn_5 : Dc b_Furnace_burn 5 (.invokestatic 16) 3 8 := ⟨by decide +kernel, rfl⟩
theorem d_Furnace_burn_8 : Dc b_Furnace_burn 8 (.istore_n 3) 1 9 := ⟨by decide +kernel, rfl⟩
theorem d_Furnace_burn_9 : Dc b_Furnace_burn 9 (.aload_n 0) 1 10 := ⟨by decide +kernel, rfl⟩
theorem d_Furnace_burn_10 : Dc b_Furnace_burn 10 .dup 1 11 := ⟨by decide +kernel, rfl⟩
theorem d_Furnace_burn_11 : Dc b_Furnace_burn 11 (.getfield 13) 3 14 := ⟨by decide +kernel, rfl⟩
theorem d_Furnace_burn_14 : Dc b_Furnace_burn 14 (.iload_n 3) 1 15 := ⟨by decide +kernel, rfl⟩
theorem d_Furnace_burn_15 : Dc b_Furnace_burn 15 .isub 1 16 := ⟨by decide +kernel, rfl⟩
theorem d_Furnace_burn_16 : Dc b_Furnace_burn 16 (.putfield 13) 3 19 := ⟨by decide +kernel, rfl⟩
theorem d_Furnace_burn_19 : Dc b_Furnace_burn 19 (.aload_n 0) 1 20 := ⟨by decide +kernel, rfl⟩
theorem d_Furnace_burn_20 : Dc b_Furnace_burn 20 .dup 1 21 := ⟨by decide +kernel, rfl⟩
theorem d_Furnace_burn_21 : Dc b_Furnace_burn 21 (.getfield 22) 3 24 := ⟨by decide +kernel, rfl⟩
theorem d_Furnace_burn_24 : Dc b_Furnace_burn 24 (.iload_n 3) 1 25 := ⟨by decide +kernel, rfl⟩
theorem d_Furnace_burn_25 : Dc b_Furnace_burn 25 .iadd 1 26 := ⟨by decide +kernel, rfl⟩
theorem d_Furnace_burn_26 : Dc b_Furnace_burn 26 (.putfield 22) 3 29 := ⟨by decide +kernel, rfl⟩
theorem d_Furnace_burn_29 : Dc b_Furnace_burn 29 (.aload_n 0) 1 30 := ⟨by decide +kernel, rfl⟩
theorem d_Furnace_burn_30 : Dc b_Furnace_burn 30 .dup 1 31 := ⟨by decide +kernel, rfl⟩
theorem d_Furnace_burn_31 : Dc b_Furnace_burn 31 (.getfield 25) 3 34 := ⟨by decide +kernel, rfl⟩
theorem d_Furnace_burn_34 : Dc b_Furnace_burn 34 (.iconst 3) 1 35 := ⟨by decide +kernel, rfl⟩
theorem d_Furnace_burn_35 : Dc b_Furnace_burn 35 (.iload_n 3) 1 36 := ⟨by decide +kernel, rfl⟩
theorem d_Furnace_burn_36 : Dc b_Furnace_burn 36 .imul 1 37 := ⟨by decide +kernel, rfl⟩
theorem d_Furnace_burn_37 : Dc b_Furnace_burn 37 .iadd 1 38 := ⟨by decide +kernel, rfl⟩
theorem d_Furnace_burn_38 : Dc b_Furnace_burn 38 (.putfield 25) 3 41 := ⟨by decide +kernel, rfl⟩
theorem d_Furnace_burn_41 : Dc b_Furnace_burn 41 (.iload_n 3) 1 42 := ⟨by decide +kernel, rfl⟩
theorem d_Furnace_burn_42 : Dc b_Furnace_burn 42 (.iconst 4) 1 43 := ⟨by decide +kernel, rfl⟩
theorem d_Furnace_burn_43 : Dc b_Furnace_burn 43 .idiv 1 44 := ⟨by decide +kernel, rfl⟩
theorem d_Furnace_burn_44 : Dc b_Furnace_burn 44 (.istore 4) 2 46 := ⟨by decide +kernel, rfl⟩
theorem d_Furnace_burn_46 : Dc b_Furnace_burn 46 (.aload_n 0) 1 47 := ⟨by decide +kernel, rfl⟩
theorem d_Furnace_burn_47 : Dc b_Furnace_burn 47 .dup 1 48 := ⟨by decide +kernel, rfl⟩
theorem d_Furnace_burn_48 : Dc b_Furnace_burn 48 (.getfield 28) 3 51 := ⟨by decide +kernel, rfl⟩
theorem d_Furnace_burn_51 : Dc b_Furnace_burn 51 (.iload 4) 2 53 := ⟨by decide +kernel, rfl⟩
theorem d_Furnace_burn_53 : Dc b_Furnace_burn 53 .iadd 1 54 := ⟨by decide +kernel, rfl⟩
theorem d_Furnace_burn_54 : Dc b_Furnace_burn 54 (.putfield 28) 3 57 := ⟨by decide +kernel, rfl⟩
theorem d_Furnace_burn_57 : Dc b_Furnace_burn 57 (.aload_n 2) 1 58 := ⟨by decide +kernel, rfl⟩
theorem d_Furnace_burn_58 : Dc b_Furnace_burn 58 (.iload 4) 2 60 := ⟨by decide +kernel, rfl⟩
theorem d_Furnace_burn_60 : Dc b_Furnace_burn 60 (.iconst 0) 1 61 := ⟨by decide +kernel, rfl⟩
theorem d_Furnace_burn_61 : Dc b_Furnace_burn 61 (.invokevirtual 31) 3 64 := ⟨by decide +kernel, rfl⟩
theorem d_Furnace_burn_64 : Dc b_Furnace_burn 64 (.iload_n 1) 1 65 := ⟨by decide +kernel, rfl⟩
theorem d_Furnace_burn_65 : Dc b_Furnace_burn 65 (.iload_n 3) 1 66 := ⟨by decide +kernel, rfl⟩
theorem d_Furnace_burn_66 : Dc b_Furnace_burn 66 .isub 1 67 := ⟨by decide +kernel, rfl⟩
theorem d_Furnace_burn_67 : Dc b_Furnace_burn 67 (.istore 5) 2 69 := ⟨by decide +kernel, rfl⟩
theorem d_Furnace_burn_69 : Dc b_Furnace_burn 69 (.aload_n 2) 1 70 := ⟨by decide +kernel, rfl⟩
theorem d_Furnace_burn_70 : Dc b_Furnace_burn 70 (.iload 5) 2 72 := ⟨by decide +kernel, rfl⟩
theorem d_Furnace_burn_72 : Dc b_Furnace_burn 72 (.iload 5) 2 74 := ⟨by decide +kernel, rfl⟩
theorem d_Furnace_burn_74 : Dc b_Furnace_burn 74 (.iconst 2) 1 75 := ⟨by decide +kernel, rfl⟩
theorem d_Furnace_burn_75 : Dc b_Furnace_burn 75 .idiv 1 76 := ⟨by decide +kernel, rfl⟩
theorem d_Furnace_burn_76 : Dc b_Furnace_burn 76 (.invokevirtual 31) 3 79 := ⟨by decide +kernel, rfl⟩
theorem d_Furnace_burn_79 : Dc b_Furnace_burn 79 .return_ 1 80 := ⟨by decide +kernel, rfl⟩
abbrev b_Furnace_init : ByteArray := prog_5_method_1_code
def y_Furnace_init : MethodName := ⟨"BinWard$Furnace", "<init>", "()V"⟩
theorem d_Furnace_init_0 : Dc b_Furnace_init 0 (.aload_n 0) 1 1 := ⟨by decide +kernel, rfl⟩
theorem d_Furnace_init_1 : Dc b_Furnace_init 1 (.invokespecial 1) 3 4 := ⟨by decide +kernel, rfl⟩
theorem d_Furnace_init_4 : Dc b_Furnace_init 4 (.aload_n 0) 1 5 := ⟨by decide +kernel, rfl⟩
theorem d_Furnace_init_5 : Dc b_Furnace_init 5 (.bipush 50) 2 7 := ⟨by decide +kernel, rfl⟩
theorem d_Furnace_init_7 : Dc b_Furnace_init 7 (.putfield 7) 3 10 := ⟨by decide +kernel, rfl⟩
theorem d_Furnace_init_10 : Dc b_Furnace_init 10 .return_ 1 11 := ⟨by decide +kernel, rfl⟩
abbrev b_Furnace_startDay : ByteArray := prog_5_method_2_code
def y_Furnace_startDay : MethodName := ⟨"BinWard$Furnace", "startDay", "()V"⟩
theorem d_Furnace_startDay_0 : Dc b_Furnace_startDay 0 (.aload_n 0) 1 1 := ⟨by decide +kernel, rfl⟩
theorem d_Furnace_startDay_1 : Dc b_Furnace_startDay 1 (.aload_n 0) 1 2 := ⟨by decide +kernel, rfl⟩
theorem d_Furnace_startDay_2 : Dc b_Furnace_startDay 2 (.getfield 7) 3 5 := ⟨by decide +kernel, rfl⟩
theorem d_Furnace_startDay_5 : Dc b_Furnace_startDay 5 (.putfield 13) 3 8 := ⟨by decide +kernel, rfl⟩
theorem d_Furnace_startDay_8 : Dc b_Furnace_startDay 8 .return_ 1 9 := ⟨by decide +kernel, rfl⟩
abbrev b_Heap_init : ByteArray := prog_6_method_1_code
def y_Heap_init : MethodName := ⟨"BinWard$Heap", "<init>", "()V"⟩
theorem d_Heap_init_0 : Dc b_Heap_init 0 (.aload_n 0) 1 1 := ⟨by decide +kernel, rfl⟩
theorem d_Heap_init_1 : Dc b_Heap_init 1 (.invokespecial 1) 3 4 := ⟨by decide +kernel, rfl⟩
theorem d_Heap_init_4 : Dc b_Heap_init 4 .return_ 1 5 := ⟨by decide +kernel, rfl⟩
abbrev b_Heap_ripen : ByteArray := prog_6_method_3_code
def y_Heap_ripen : MethodName := ⟨"BinWard$Heap", "ripen", "()V"⟩
theorem d_Heap_ripen_0 : Dc b_Heap_ripen 0 (.aload_n 0) 1 1 := ⟨by decide +kernel, rfl⟩
theorem d_Heap_ripen_1 : Dc b_Heap_ripen 1 (.getfield 7) 3 4 := ⟨by decide +kernel, rfl⟩
theorem d_Heap_ripen_4 : Dc b_Heap_ripen 4 (.bipush 10) 2 6 := ⟨by decide +kernel, rfl⟩
theorem d_Heap_ripen_6 : Dc b_Heap_ripen 6 (.invokestatic 19) 3 9 := ⟨by decide +kernel, rfl⟩
theorem d_Heap_ripen_9 : Dc b_Heap_ripen 9 (.istore_n 1) 1 10 := ⟨by decide +kernel, rfl⟩
theorem d_Heap_ripen_10 : Dc b_Heap_ripen 10 (.aload_n 0) 1 11 := ⟨by decide +kernel, rfl⟩
theorem d_Heap_ripen_11 : Dc b_Heap_ripen 11 (.getfield 7) 3 14 := ⟨by decide +kernel, rfl⟩
theorem d_Heap_ripen_14 : Dc b_Heap_ripen 14 (.bipush 20) 2 16 := ⟨by decide +kernel, rfl⟩
theorem d_Heap_ripen_16 : Dc b_Heap_ripen 16 .idiv 1 17 := ⟨by decide +kernel, rfl⟩
theorem d_Heap_ripen_17 : Dc b_Heap_ripen 17 (.istore_n 2) 1 18 := ⟨by decide +kernel, rfl⟩
theorem d_Heap_ripen_18 : Dc b_Heap_ripen 18 (.aload_n 0) 1 19 := ⟨by decide +kernel, rfl⟩
theorem d_Heap_ripen_19 : Dc b_Heap_ripen 19 .dup 1 20 := ⟨by decide +kernel, rfl⟩
theorem d_Heap_ripen_20 : Dc b_Heap_ripen 20 (.getfield 25) 3 23 := ⟨by decide +kernel, rfl⟩
theorem d_Heap_ripen_23 : Dc b_Heap_ripen 23 (.iload_n 1) 1 24 := ⟨by decide +kernel, rfl⟩
theorem d_Heap_ripen_24 : Dc b_Heap_ripen 24 .iadd 1 25 := ⟨by decide +kernel, rfl⟩
theorem d_Heap_ripen_25 : Dc b_Heap_ripen 25 (.putfield 25) 3 28 := ⟨by decide +kernel, rfl⟩
theorem d_Heap_ripen_28 : Dc b_Heap_ripen 28 (.aload_n 0) 1 29 := ⟨by decide +kernel, rfl⟩
theorem d_Heap_ripen_29 : Dc b_Heap_ripen 29 .dup 1 30 := ⟨by decide +kernel, rfl⟩
theorem d_Heap_ripen_30 : Dc b_Heap_ripen 30 (.getfield 28) 3 33 := ⟨by decide +kernel, rfl⟩
theorem d_Heap_ripen_33 : Dc b_Heap_ripen 33 (.iload_n 2) 1 34 := ⟨by decide +kernel, rfl⟩
theorem d_Heap_ripen_34 : Dc b_Heap_ripen 34 .iadd 1 35 := ⟨by decide +kernel, rfl⟩
theorem d_Heap_ripen_35 : Dc b_Heap_ripen 35 (.putfield 28) 3 38 := ⟨by decide +kernel, rfl⟩
theorem d_Heap_ripen_38 : Dc b_Heap_ripen 38 (.aload_n 0) 1 39 := ⟨by decide +kernel, rfl⟩
theorem d_Heap_ripen_39 : Dc b_Heap_ripen 39 .dup 1 40 := ⟨by decide +kernel, rfl⟩
theorem d_Heap_ripen_40 : Dc b_Heap_ripen 40 (.getfield 7) 3 43 := ⟨by decide +kernel, rfl⟩
theorem d_Heap_ripen_43 : Dc b_Heap_ripen 43 (.iload_n 1) 1 44 := ⟨by decide +kernel, rfl⟩
theorem d_Heap_ripen_44 : Dc b_Heap_ripen 44 (.iload_n 2) 1 45 := ⟨by decide +kernel, rfl⟩
theorem d_Heap_ripen_45 : Dc b_Heap_ripen 45 .iadd 1 46 := ⟨by decide +kernel, rfl⟩
theorem d_Heap_ripen_46 : Dc b_Heap_ripen 46 .isub 1 47 := ⟨by decide +kernel, rfl⟩
theorem d_Heap_ripen_47 : Dc b_Heap_ripen 47 (.putfield 7) 3 50 := ⟨by decide +kernel, rfl⟩
theorem d_Heap_ripen_50 : Dc b_Heap_ripen 50 .return_ 1 51 := ⟨by decide +kernel, rfl⟩
abbrev b_Heap_takeIn : ByteArray := prog_6_method_2_code
def y_Heap_takeIn : MethodName := ⟨"BinWard$Heap", "takeIn", "(II)V"⟩
theorem d_Heap_takeIn_0 : Dc b_Heap_takeIn 0 (.aload_n 0) 1 1 := ⟨by decide +kernel, rfl⟩
theorem d_Heap_takeIn_1 : Dc b_Heap_takeIn 1 .dup 1 2 := ⟨by decide +kernel, rfl⟩
theorem d_Heap_takeIn_2 : Dc b_Heap_takeIn 2 (.getfield 7) 3 5 := ⟨by decide +kernel, rfl⟩
theorem d_Heap_takeIn_5 : Dc b_Heap_takeIn 5 (.iload_n 1) 1 6 := ⟨by decide +kernel, rfl⟩
theorem d_Heap_takeIn_6 : Dc b_Heap_takeIn 6 .iadd 1 7 := ⟨by decide +kernel, rfl⟩
theorem d_Heap_takeIn_7 : Dc b_Heap_takeIn 7 (.putfield 7) 3 10 := ⟨by decide +kernel, rfl⟩
theorem d_Heap_takeIn_10 : Dc b_Heap_takeIn 10 (.aload_n 0) 1 11 := ⟨by decide +kernel, rfl⟩
theorem d_Heap_takeIn_11 : Dc b_Heap_takeIn 11 .dup 1 12 := ⟨by decide +kernel, rfl⟩
theorem d_Heap_takeIn_12 : Dc b_Heap_takeIn 12 (.getfield 13) 3 15 := ⟨by decide +kernel, rfl⟩
theorem d_Heap_takeIn_15 : Dc b_Heap_takeIn 15 (.iload_n 2) 1 16 := ⟨by decide +kernel, rfl⟩
theorem d_Heap_takeIn_16 : Dc b_Heap_takeIn 16 .iadd 1 17 := ⟨by decide +kernel, rfl⟩
theorem d_Heap_takeIn_17 : Dc b_Heap_takeIn 17 (.putfield 13) 3 20 := ⟨by decide +kernel, rfl⟩
theorem d_Heap_takeIn_20 : Dc b_Heap_takeIn 20 (.aload_n 0) 1 21 := ⟨by decide +kernel, rfl⟩
theorem d_Heap_takeIn_21 : Dc b_Heap_takeIn 21 .dup 1 22 := ⟨by decide +kernel, rfl⟩
theorem d_Heap_takeIn_22 : Dc b_Heap_takeIn 22 (.getfield 16) 3 25 := ⟨by decide +kernel, rfl⟩
theorem d_Heap_takeIn_25 : Dc b_Heap_takeIn 25 (.iload_n 1) 1 26 := ⟨by decide +kernel, rfl⟩
theorem d_Heap_takeIn_26 : Dc b_Heap_takeIn 26 (.iload_n 2) 1 27 := ⟨by decide +kernel, rfl⟩
theorem d_Heap_takeIn_27 : Dc b_Heap_takeIn 27 .iadd 1 28 := ⟨by decide +kernel, rfl⟩
theorem d_Heap_takeIn_28 : Dc b_Heap_takeIn 28 .iadd 1 29 := ⟨by decide +kernel, rfl⟩
theorem d_Heap_takeIn_29 : Dc b_Heap_takeIn 29 (.putfield 16) 3 32 := ⟨by decide +kernel, rfl⟩
theorem d_Heap_takeIn_32 : Dc b_Heap_takeIn 32 .return_ 1 33 := ⟨by decide +kernel, rfl⟩
abbrev b_Line_init : ByteArray := prog_7_method_1_code
def y_Line_init : MethodName := ⟨"BinWard$Line", "<init>", "()V"⟩
theorem d_Line_init_0 : Dc b_Line_init 0 (.aload_n 0) 1 1 := ⟨by decide +kernel, rfl⟩
theorem d_Line_init_1 : Dc b_Line_init 1 (.invokespecial 1) 3 4 := ⟨by decide +kernel, rfl⟩
theorem d_Line_init_4 : Dc b_Line_init 4 (.aload_n 0) 1 5 := ⟨by decide +kernel, rfl⟩
theorem d_Line_init_5 : Dc b_Line_init 5 (.bipush 60) 2 7 := ⟨by decide +kernel, rfl⟩
theorem d_Line_init_7 : Dc b_Line_init 7 (.putfield 7) 3 10 := ⟨by decide +kernel, rfl⟩
theorem d_Line_init_10 : Dc b_Line_init 10 .return_ 1 11 := ⟨by decide +kernel, rfl⟩
abbrev b_Line_sort : ByteArray := prog_7_method_3_code
def y_Line_sort : MethodName := ⟨"BinWard$Line", "sort", "(IILBinWard$Baler;)I"⟩
theorem d_Line_sort_0 : Dc b_Line_sort 0 (.iload_n 2) 1 1 := ⟨by decide +kernel, rfl⟩
theorem d_Line_sort_1 : Dc b_Line_sort 1 (.aload_n 0) 1 2 := ⟨by decide +kernel, rfl⟩
theorem d_Line_sort_2 : Dc b_Line_sort 2 (.getfield 7) 3 5 := ⟨by decide +kernel, rfl⟩
theorem d_Line_sort_5 : Dc b_Line_sort 5 .imul 1 6 := ⟨by decide +kernel, rfl⟩
theorem d_Line_sort_6 : Dc b_Line_sort 6 (.bipush 100) 2 8 := ⟨by decide +kernel, rfl⟩
theorem d_Line_sort_8 : Dc b_Line_sort 8 .idiv 1 9 := ⟨by decide +kernel, rfl⟩
theorem d_Line_sort_9 : Dc b_Line_sort 9 (.istore 4) 2 11 := ⟨by decide +kernel, rfl⟩
theorem d_Line_sort_11 : Dc b_Line_sort 11 (.iload_n 2) 1 12 := ⟨by decide +kernel, rfl⟩
theorem d_Line_sort_12 : Dc b_Line_sort 12 (.iload 4) 2 14 := ⟨by decide +kernel, rfl⟩
theorem d_Line_sort_14 : Dc b_Line_sort 14 .isub 1 15 := ⟨by decide +kernel, rfl⟩
theorem d_Line_sort_15 : Dc b_Line_sort 15 (.aload_n 0) 1 16 := ⟨by decide +kernel, rfl⟩
theorem d_Line_sort_16 : Dc b_Line_sort 16 (.getfield 16) 3 19 := ⟨by decide +kernel, rfl⟩
theorem d_Line_sort_19 : Dc b_Line_sort 19 (.invokestatic 19) 3 22 := ⟨by decide +kernel, rfl⟩
theorem d_Line_sort_22 : Dc b_Line_sort 22 (.istore 5) 2 24 := ⟨by decide +kernel, rfl⟩
theorem d_Line_sort_24 : Dc b_Line_sort 24 (.aload_n 0) 1 25 := ⟨by decide +kernel, rfl⟩
theorem d_Line_sort_25 : Dc b_Line_sort 25 .dup 1 26 := ⟨by decide +kernel, rfl⟩
theorem d_Line_sort_26 : Dc b_Line_sort 26 (.getfield 16) 3 29 := ⟨by decide +kernel, rfl⟩
theorem d_Line_sort_29 : Dc b_Line_sort 29 (.iload 5) 2 31 := ⟨by decide +kernel, rfl⟩
theorem d_Line_sort_31 : Dc b_Line_sort 31 .isub 1 32 := ⟨by decide +kernel, rfl⟩
theorem d_Line_sort_32 : Dc b_Line_sort 32 (.putfield 16) 3 35 := ⟨by decide +kernel, rfl⟩
theorem d_Line_sort_35 : Dc b_Line_sort 35 (.iload_n 1) 1 36 := ⟨by decide +kernel, rfl⟩
theorem d_Line_sort_36 : Dc b_Line_sort 36 (.iconst 5) 1 37 := ⟨by decide +kernel, rfl⟩
theorem d_Line_sort_37 : Dc b_Line_sort 37 .imul 1 38 := ⟨by decide +kernel, rfl⟩
theorem d_Line_sort_38 : Dc b_Line_sort 38 (.bipush 100) 2 40 := ⟨by decide +kernel, rfl⟩
theorem d_Line_sort_40 : Dc b_Line_sort 40 .idiv 1 41 := ⟨by decide +kernel, rfl⟩
theorem d_Line_sort_41 : Dc b_Line_sort 41 (.istore 6) 2 43 := ⟨by decide +kernel, rfl⟩
theorem d_Line_sort_43 : Dc b_Line_sort 43 (.aload_n 3) 1 44 := ⟨by decide +kernel, rfl⟩
theorem d_Line_sort_44 : Dc b_Line_sort 44 .dup 1 45 := ⟨by decide +kernel, rfl⟩
theorem d_Line_sort_45 : Dc b_Line_sort 45 (.getfield 25) 3 48 := ⟨by decide +kernel, rfl⟩
theorem d_Line_sort_48 : Dc b_Line_sort 48 (.iload_n 1) 1 49 := ⟨by decide +kernel, rfl⟩
theorem d_Line_sort_49 : Dc b_Line_sort 49 (.iload 6) 2 51 := ⟨by decide +kernel, rfl⟩
theorem d_Line_sort_51 : Dc b_Line_sort 51 .isub 1 52 := ⟨by decide +kernel, rfl⟩
theorem d_Line_sort_52 : Dc b_Line_sort 52 .iadd 1 53 := ⟨by decide +kernel, rfl⟩
theorem d_Line_sort_53 : Dc b_Line_sort 53 (.putfield 25) 3 56 := ⟨by decide +kernel, rfl⟩
theorem d_Line_sort_56 : Dc b_Line_sort 56 (.aload_n 3) 1 57 := ⟨by decide +kernel, rfl⟩
theorem d_Line_sort_57 : Dc b_Line_sort 57 .dup 1 58 := ⟨by decide +kernel, rfl⟩
theorem d_Line_sort_58 : Dc b_Line_sort 58 (.getfield 30) 3 61 := ⟨by decide +kernel, rfl⟩
theorem d_Line_sort_61 : Dc b_Line_sort 61 (.iload_n 2) 1 62 := ⟨by decide +kernel, rfl⟩
theorem d_Line_sort_62 : Dc b_Line_sort 62 (.iload 4) 2 64 := ⟨by decide +kernel, rfl⟩
theorem d_Line_sort_64 : Dc b_Line_sort 64 .isub 1 65 := ⟨by decide +kernel, rfl⟩
theorem d_Line_sort_65 : Dc b_Line_sort 65 (.iload 5) 2 67 := ⟨by decide +kernel, rfl⟩
theorem d_Line_sort_67 : Dc b_Line_sort 67 .isub 1 68 := ⟨by decide +kernel, rfl⟩
theorem d_Line_sort_68 : Dc b_Line_sort 68 .iadd 1 69 := ⟨by decide +kernel, rfl⟩
theorem d_Line_sort_69 : Dc b_Line_sort 69 (.putfield 30) 3 72 := ⟨by decide +kernel, rfl⟩
theorem d_Line_sort_72 : Dc b_Line_sort 72 (.iload 4) 2 74 := ⟨by decide +kernel, rfl⟩
theorem d_Line_sort_74 : Dc b_Line_sort 74 (.iload 5) 2 76 := ⟨by decide +kernel, rfl⟩
theorem d_Line_sort_76 : Dc b_Line_sort 76 .iadd 1 77 := ⟨by decide +kernel, rfl⟩
theorem d_Line_sort_77 : Dc b_Line_sort 77 (.iload 6) 2 79 := ⟨by decide +kernel, rfl⟩
theorem d_Line_sort_79 : Dc b_Line_sort 79 .iadd 1 80 := ⟨by decide +kernel, rfl⟩
theorem d_Line_sort_80 : Dc b_Line_sort 80 .ireturn 1 81 := ⟨by decide +kernel, rfl⟩
abbrev b_Line_startDay : ByteArray := prog_7_method_2_code
def y_Line_startDay : MethodName := ⟨"BinWard$Line", "startDay", "()V"⟩
theorem d_Line_startDay_0 : Dc b_Line_startDay 0 (.aload_n 0) 1 1 := ⟨by decide +kernel, rfl⟩
theorem d_Line_startDay_1 : Dc b_Line_startDay 1 (.aload_n 0) 1 2 := ⟨by decide +kernel, rfl⟩
theorem d_Line_startDay_2 : Dc b_Line_startDay 2 (.getfield 13) 3 5 := ⟨by decide +kernel, rfl⟩
theorem d_Line_startDay_5 : Dc b_Line_startDay 5 (.putfield 16) 3 8 := ⟨by decide +kernel, rfl⟩
theorem d_Line_startDay_8 : Dc b_Line_startDay 8 .return_ 1 9 := ⟨by decide +kernel, rfl⟩
abbrev b_Lorry_addToRound : ByteArray := prog_8_method_3_code
def y_Lorry_addToRound : MethodName := ⟨"BinWard$Lorry", "addToRound", "(II)V"⟩
theorem d_Lorry_addToRound_0 : Dc b_Lorry_addToRound 0 (.aload_n 0) 1 1 := ⟨by decide +kernel, rfl⟩
theorem d_Lorry_addToRound_1 : Dc b_Lorry_addToRound 1 (.getfield 20) 3 4 := ⟨by decide +kernel, rfl⟩
theorem d_Lorry_addToRound_4 : Dc b_Lorry_addToRound 4 (.iload_n 1) 1 5 := ⟨by decide +kernel, rfl⟩
theorem d_Lorry_addToRound_5 : Dc b_Lorry_addToRound 5 .iaload 1 6 := ⟨by decide +kernel, rfl⟩
theorem d_Lorry_addToRound_6 : Dc b_Lorry_addToRound 6 (.istore_n 3) 1 7 := ⟨by decide +kernel, rfl⟩
theorem d_Lorry_addToRound_7 : Dc b_Lorry_addToRound 7 (.iload_n 3) 1 8 := ⟨by decide +kernel, rfl⟩
theorem d_Lorry_addToRound_8 : Dc b_Lorry_addToRound 8 (.bipush 6) 2 10 := ⟨by decide +kernel, rfl⟩
theorem d_Lorry_addToRound_10 : Dj b_Lorry_addToRound 10 (.if_icmp .ge) 31 13 := ⟨21, by decide +kernel, by decide, rfl⟩
theorem d_Lorry_addToRound_13 : Dc b_Lorry_addToRound 13 (.aload_n 0) 1 14 := ⟨by decide +kernel, rfl⟩
theorem d_Lorry_addToRound_14 : Dc b_Lorry_addToRound 14 (.getfield 17) 3 17 := ⟨by decide +kernel, rfl⟩
theorem d_Lorry_addToRound_17 : Dc b_Lorry_addToRound 17 (.iload_n 1) 1 18 := ⟨by decide +kernel, rfl⟩
theorem d_Lorry_addToRound_18 : Dc b_Lorry_addToRound 18 .aaload 1 19 := ⟨by decide +kernel, rfl⟩
theorem d_Lorry_addToRound_19 : Dc b_Lorry_addToRound 19 (.iload_n 3) 1 20 := ⟨by decide +kernel, rfl⟩
theorem d_Lorry_addToRound_20 : Dc b_Lorry_addToRound 20 (.iload_n 2) 1 21 := ⟨by decide +kernel, rfl⟩
theorem d_Lorry_addToRound_21 : Dc b_Lorry_addToRound 21 .iastore 1 22 := ⟨by decide +kernel, rfl⟩
theorem d_Lorry_addToRound_22 : Dc b_Lorry_addToRound 22 (.aload_n 0) 1 23 := ⟨by decide +kernel, rfl⟩
theorem d_Lorry_addToRound_23 : Dc b_Lorry_addToRound 23 (.getfield 20) 3 26 := ⟨by decide +kernel, rfl⟩
theorem d_Lorry_addToRound_26 : Dc b_Lorry_addToRound 26 (.iload_n 1) 1 27 := ⟨by decide +kernel, rfl⟩
theorem d_Lorry_addToRound_27 : Dc b_Lorry_addToRound 27 (.iload_n 3) 1 28 := ⟨by decide +kernel, rfl⟩
theorem d_Lorry_addToRound_28 : Dc b_Lorry_addToRound 28 (.iconst 1) 1 29 := ⟨by decide +kernel, rfl⟩
theorem d_Lorry_addToRound_29 : Dc b_Lorry_addToRound 29 .iadd 1 30 := ⟨by decide +kernel, rfl⟩
theorem d_Lorry_addToRound_30 : Dc b_Lorry_addToRound 30 .iastore 1 31 := ⟨by decide +kernel, rfl⟩
theorem d_Lorry_addToRound_31 : Dc b_Lorry_addToRound 31 .return_ 1 32 := ⟨by decide +kernel, rfl⟩
abbrev b_Lorry_comesTo : ByteArray := prog_8_method_2_code
def y_Lorry_comesTo : MethodName := ⟨"BinWard$Lorry", "comesTo", "(II)Z"⟩
theorem d_Lorry_comesTo_0 : Dc b_Lorry_comesTo 0 (.iconst 0) 1 1 := ⟨by decide +kernel, rfl⟩
theorem d_Lorry_comesTo_1 : Dc b_Lorry_comesTo 1 (.istore_n 3) 1 2 := ⟨by decide +kernel, rfl⟩
theorem d_Lorry_comesTo_2 : Dc b_Lorry_comesTo 2 (.iload_n 3) 1 3 := ⟨by decide +kernel, rfl⟩
theorem d_Lorry_comesTo_3 : Dc b_Lorry_comesTo 3 (.aload_n 0) 1 4 := ⟨by decide +kernel, rfl⟩
theorem d_Lorry_comesTo_4 : Dc b_Lorry_comesTo 4 (.getfield 20) 3 7 := ⟨by decide +kernel, rfl⟩
theorem d_Lorry_comesTo_7 : Dc b_Lorry_comesTo 7 (.iload_n 1) 1 8 := ⟨by decide +kernel, rfl⟩
theorem d_Lorry_comesTo_8 : Dc b_Lorry_comesTo 8 .iaload 1 9 := ⟨by decide +kernel, rfl⟩
theorem d_Lorry_comesTo_9 : Dj b_Lorry_comesTo 9 (.if_icmp .ge) 32 12 := ⟨23, by decide +kernel, by decide, rfl⟩
theorem d_Lorry_comesTo_12 : Dc b_Lorry_comesTo 12 (.aload_n 0) 1 13 := ⟨by decide +kernel, rfl⟩
theorem d_Lorry_comesTo_13 : Dc b_Lorry_comesTo 13 (.getfield 17) 3 16 := ⟨by decide +kernel, rfl⟩
theorem d_Lorry_comesTo_16 : Dc b_Lorry_comesTo 16 (.iload_n 1) 1 17 := ⟨by decide +kernel, rfl⟩
theorem d_Lorry_comesTo_17 : Dc b_Lorry_comesTo 17 .aaload 1 18 := ⟨by decide +kernel, rfl⟩
theorem d_Lorry_comesTo_18 : Dc b_Lorry_comesTo 18 (.iload_n 3) 1 19 := ⟨by decide +kernel, rfl⟩
theorem d_Lorry_comesTo_19 : Dc b_Lorry_comesTo 19 .iaload 1 20 := ⟨by decide +kernel, rfl⟩
theorem d_Lorry_comesTo_20 : Dc b_Lorry_comesTo 20 (.iload_n 2) 1 21 := ⟨by decide +kernel, rfl⟩
theorem d_Lorry_comesTo_21 : Dj b_Lorry_comesTo 21 (.if_icmp .ne) 26 24 := ⟨5, by decide +kernel, by decide, rfl⟩
theorem d_Lorry_comesTo_24 : Dc b_Lorry_comesTo 24 (.iconst 1) 1 25 := ⟨by decide +kernel, rfl⟩
theorem d_Lorry_comesTo_25 : Dc b_Lorry_comesTo 25 .ireturn 1 26 := ⟨by decide +kernel, rfl⟩
theorem d_Lorry_comesTo_26 : Dc b_Lorry_comesTo 26 (.iinc 3 1) 3 29 := ⟨by decide +kernel, rfl⟩
theorem d_Lorry_comesTo_29 : Dj b_Lorry_comesTo 29 .goto 2 32 := ⟨-27, by decide +kernel, by decide, rfl⟩
theorem d_Lorry_comesTo_32 : Dc b_Lorry_comesTo 32 (.iconst 0) 1 33 := ⟨by decide +kernel, rfl⟩
theorem d_Lorry_comesTo_33 : Dc b_Lorry_comesTo 33 .ireturn 1 34 := ⟨by decide +kernel, rfl⟩
abbrev b_Lorry_init : ByteArray := prog_8_method_1_code
def y_Lorry_init : MethodName := ⟨"BinWard$Lorry", "<init>", "()V"⟩
theorem d_Lorry_init_0 : Dc b_Lorry_init 0 (.aload_n 0) 1 1 := ⟨by decide +kernel, rfl⟩
theorem d_Lorry_init_1 : Dc b_Lorry_init 1 (.invokespecial 3) 3 4 := ⟨by decide +kernel, rfl⟩
theorem d_Lorry_init_4 : Dc b_Lorry_init 4 (.aload_n 0) 1 5 := ⟨by decide +kernel, rfl⟩
theorem d_Lorry_init_5 : Dc b_Lorry_init 5 (.iconst 2) 1 6 := ⟨by decide +kernel, rfl⟩
theorem d_Lorry_init_6 : Dc b_Lorry_init 6 (.newarray .int) 2 8 := ⟨by decide +kernel, rfl⟩
theorem d_Lorry_init_8 : Dc b_Lorry_init 8 (.putfield 9) 3 11 := ⟨by decide +kernel, rfl⟩
theorem d_Lorry_init_11 : Dc b_Lorry_init 11 (.aload_n 0) 1 12 := ⟨by decide +kernel, rfl⟩
theorem d_Lorry_init_12 : Dc b_Lorry_init 12 (.bipush 7) 2 14 := ⟨by decide +kernel, rfl⟩
theorem d_Lorry_init_14 : Dc b_Lorry_init 14 (.bipush 6) 2 16 := ⟨by decide +kernel, rfl⟩
theorem d_Lorry_init_16 : Dc b_Lorry_init 16 (.multianewarray 15 2) 4 20 := ⟨by decide +kernel, rfl⟩
theorem d_Lorry_init_20 : Dc b_Lorry_init 20 (.putfield 17) 3 23 := ⟨by decide +kernel, rfl⟩
theorem d_Lorry_init_23 : Dc b_Lorry_init 23 (.aload_n 0) 1 24 := ⟨by decide +kernel, rfl⟩
theorem d_Lorry_init_24 : Dc b_Lorry_init 24 (.bipush 7) 2 26 := ⟨by decide +kernel, rfl⟩
theorem d_Lorry_init_26 : Dc b_Lorry_init 26 (.newarray .int) 2 28 := ⟨by decide +kernel, rfl⟩
theorem d_Lorry_init_28 : Dc b_Lorry_init 28 (.putfield 20) 3 31 := ⟨by decide +kernel, rfl⟩
theorem d_Lorry_init_31 : Dc b_Lorry_init 31 (.aload_n 0) 1 32 := ⟨by decide +kernel, rfl⟩
theorem d_Lorry_init_32 : Dc b_Lorry_init 32 (.new 23) 3 35 := ⟨by decide +kernel, rfl⟩
theorem d_Lorry_init_35 : Dc b_Lorry_init 35 .dup 1 36 := ⟨by decide +kernel, rfl⟩
theorem d_Lorry_init_36 : Dc b_Lorry_init 36 (.invokespecial 25) 3 39 := ⟨by decide +kernel, rfl⟩
theorem d_Lorry_init_39 : Dc b_Lorry_init 39 (.putfield 26) 3 42 := ⟨by decide +kernel, rfl⟩
theorem d_Lorry_init_42 : Dc b_Lorry_init 42 .return_ 1 43 := ⟨by decide +kernel, rfl⟩
abbrev b_Lorry_noteTrip : ByteArray := prog_8_method_4_code
def y_Lorry_noteTrip : MethodName := ⟨"BinWard$Lorry", "noteTrip", "(I)V"⟩
theorem d_Lorry_noteTrip_0 : Dc b_Lorry_noteTrip 0 (.aload_n 0) 1 1 := ⟨by decide +kernel, rfl⟩
theorem d_Lorry_noteTrip_1 : Dc b_Lorry_noteTrip 1 .dup 1 2 := ⟨by decide +kernel, rfl⟩
theorem d_Lorry_noteTrip_2 : Dc b_Lorry_noteTrip 2 (.getfield 30) 3 5 := ⟨by decide +kernel, rfl⟩
theorem d_Lorry_noteTrip_5 : Dc b_Lorry_noteTrip 5 (.aload_n 0) 1 6 := ⟨by decide +kernel, rfl⟩
theorem d_Lorry_noteTrip_6 : Dc b_Lorry_noteTrip 6 (.getfield 26) 3 9 := ⟨by decide +kernel, rfl⟩
theorem d_Lorry_noteTrip_9 : Dc b_Lorry_noteTrip 9 (.getfield 34) 3 12 := ⟨by decide +kernel, rfl⟩
theorem d_Lorry_noteTrip_12 : Dc b_Lorry_noteTrip 12 .iadd 1 13 := ⟨by decide +kernel, rfl⟩
theorem d_Lorry_noteTrip_13 : Dc b_Lorry_noteTrip 13 (.putfield 30) 3 16 := ⟨by decide +kernel, rfl⟩
theorem d_Lorry_noteTrip_16 : Dc b_Lorry_noteTrip 16 (.aload_n 0) 1 17 := ⟨by decide +kernel, rfl⟩
theorem d_Lorry_noteTrip_17 : Dc b_Lorry_noteTrip 17 (.getfield 20) 3 20 := ⟨by decide +kernel, rfl⟩
theorem d_Lorry_noteTrip_20 : Dc b_Lorry_noteTrip 20 (.iload_n 1) 1 21 := ⟨by decide +kernel, rfl⟩
theorem d_Lorry_noteTrip_21 : Dc b_Lorry_noteTrip 21 .iaload 1 22 := ⟨by decide +kernel, rfl⟩
theorem d_Lorry_noteTrip_22 : Dj b_Lorry_noteTrip 22 (.ifCond .le) 58 25 := ⟨36, by decide +kernel, by decide, rfl⟩
theorem d_Lorry_noteTrip_25 : Dc b_Lorry_noteTrip 25 (.aload_n 0) 1 26 := ⟨by decide +kernel, rfl⟩
theorem d_Lorry_noteTrip_26 : Dc b_Lorry_noteTrip 26 (.aload_n 0) 1 27 := ⟨by decide +kernel, rfl⟩
theorem d_Lorry_noteTrip_27 : Dc b_Lorry_noteTrip 27 (.getfield 26) 3 30 := ⟨by decide +kernel, rfl⟩
theorem d_Lorry_noteTrip_30 : Dc b_Lorry_noteTrip 30 (.getfield 35) 3 33 := ⟨by decide +kernel, rfl⟩
theorem d_Lorry_noteTrip_33 : Dc b_Lorry_noteTrip 33 (.putfield 38) 3 36 := ⟨by decide +kernel, rfl⟩
theorem d_Lorry_noteTrip_36 : Dc b_Lorry_noteTrip 36 (.aload_n 0) 1 37 := ⟨by decide +kernel, rfl⟩
theorem d_Lorry_noteTrip_37 : Dc b_Lorry_noteTrip 37 (.aload_n 0) 1 38 := ⟨by decide +kernel, rfl⟩
theorem d_Lorry_noteTrip_38 : Dc b_Lorry_noteTrip 38 (.getfield 26) 3 41 := ⟨by decide +kernel, rfl⟩
theorem d_Lorry_noteTrip_41 : Dc b_Lorry_noteTrip 41 (.getfield 41) 3 44 := ⟨by decide +kernel, rfl⟩
theorem d_Lorry_noteTrip_44 : Dc b_Lorry_noteTrip 44 (.putfield 44) 3 47 := ⟨by decide +kernel, rfl⟩
theorem d_Lorry_noteTrip_47 : Dc b_Lorry_noteTrip 47 (.aload_n 0) 1 48 := ⟨by decide +kernel, rfl⟩
theorem d_Lorry_noteTrip_48 : Dc b_Lorry_noteTrip 48 (.aload_n 0) 1 49 := ⟨by decide +kernel, rfl⟩
theorem d_Lorry_noteTrip_49 : Dc b_Lorry_noteTrip 49 (.getfield 26) 3 52 := ⟨by decide +kernel, rfl⟩
theorem d_Lorry_noteTrip_52 : Dc b_Lorry_noteTrip 52 (.getfield 47) 3 55 := ⟨by decide +kernel, rfl⟩
theorem d_Lorry_noteTrip_55 : Dc b_Lorry_noteTrip 55 (.putfield 50) 3 58 := ⟨by decide +kernel, rfl⟩
theorem d_Lorry_noteTrip_58 : Dc b_Lorry_noteTrip 58 .return_ 1 59 := ⟨by decide +kernel, rfl⟩
abbrev b_Pit_giveGas : ByteArray := prog_9_method_3_code
def y_Pit_giveGas : MethodName := ⟨"BinWard$Pit", "giveGas", "()V"⟩
theorem d_Pit_giveGas_0 : Dc b_Pit_giveGas 0 (.aload_n 0) 1 1 := ⟨by decide +kernel, rfl⟩
theorem d_Pit_giveGas_1 : Dc b_Pit_giveGas 1 (.getfield 13) 3 4 := ⟨by decide +kernel, rfl⟩
theorem d_Pit_giveGas_4 : Dc b_Pit_giveGas 4 (.bipush 50) 2 6 := ⟨by decide +kernel, rfl⟩
theorem d_Pit_giveGas_6 : Dc b_Pit_giveGas 6 .idiv 1 7 := ⟨by decide +kernel, rfl⟩
theorem d_Pit_giveGas_7 : Dc b_Pit_giveGas 7 (.istore_n 1) 1 8 := ⟨by decide +kernel, rfl⟩
theorem d_Pit_giveGas_8 : Dc b_Pit_giveGas 8 (.aload_n 0) 1 9 := ⟨by decide +kernel, rfl⟩
theorem d_Pit_giveGas_9 : Dc b_Pit_giveGas 9 .dup 1 10 := ⟨by decide +kernel, rfl⟩
theorem d_Pit_giveGas_10 : Dc b_Pit_giveGas 10 (.getfield 19) 3 13 := ⟨by decide +kernel, rfl⟩
theorem d_Pit_giveGas_13 : Dc b_Pit_giveGas 13 (.iload_n 1) 1 14 := ⟨by decide +kernel, rfl⟩
theorem d_Pit_giveGas_14 : Dc b_Pit_giveGas 14 .iadd 1 15 := ⟨by decide +kernel, rfl⟩
theorem d_Pit_giveGas_15 : Dc b_Pit_giveGas 15 (.putfield 19) 3 18 := ⟨by decide +kernel, rfl⟩
theorem d_Pit_giveGas_18 : Dc b_Pit_giveGas 18 (.aload_n 0) 1 19 := ⟨by decide +kernel, rfl⟩
theorem d_Pit_giveGas_19 : Dc b_Pit_giveGas 19 .dup 1 20 := ⟨by decide +kernel, rfl⟩
theorem d_Pit_giveGas_20 : Dc b_Pit_giveGas 20 (.getfield 13) 3 23 := ⟨by decide +kernel, rfl⟩
theorem d_Pit_giveGas_23 : Dc b_Pit_giveGas 23 (.iload_n 1) 1 24 := ⟨by decide +kernel, rfl⟩
theorem d_Pit_giveGas_24 : Dc b_Pit_giveGas 24 .isub 1 25 := ⟨by decide +kernel, rfl⟩
theorem d_Pit_giveGas_25 : Dc b_Pit_giveGas 25 (.putfield 13) 3 28 := ⟨by decide +kernel, rfl⟩
theorem d_Pit_giveGas_28 : Dc b_Pit_giveGas 28 (.aload_n 0) 1 29 := ⟨by decide +kernel, rfl⟩
theorem d_Pit_giveGas_29 : Dc b_Pit_giveGas 29 .dup 1 30 := ⟨by decide +kernel, rfl⟩
theorem d_Pit_giveGas_30 : Dc b_Pit_giveGas 30 (.getfield 7) 3 33 := ⟨by decide +kernel, rfl⟩
theorem d_Pit_giveGas_33 : Dc b_Pit_giveGas 33 (.iload_n 1) 1 34 := ⟨by decide +kernel, rfl⟩
theorem d_Pit_giveGas_34 : Dc b_Pit_giveGas 34 .isub 1 35 := ⟨by decide +kernel, rfl⟩
theorem d_Pit_giveGas_35 : Dc b_Pit_giveGas 35 (.putfield 7) 3 38 := ⟨by decide +kernel, rfl⟩
theorem d_Pit_giveGas_38 : Dc b_Pit_giveGas 38 .return_ 1 39 := ⟨by decide +kernel, rfl⟩
abbrev b_Pit_init : ByteArray := prog_9_method_1_code
def y_Pit_init : MethodName := ⟨"BinWard$Pit", "<init>", "()V"⟩
theorem d_Pit_init_0 : Dc b_Pit_init 0 (.aload_n 0) 1 1 := ⟨by decide +kernel, rfl⟩
theorem d_Pit_init_1 : Dc b_Pit_init 1 (.invokespecial 1) 3 4 := ⟨by decide +kernel, rfl⟩
theorem d_Pit_init_4 : Dc b_Pit_init 4 .return_ 1 5 := ⟨by decide +kernel, rfl⟩
abbrev b_Pit_takeIn : ByteArray := prog_9_method_2_code
def y_Pit_takeIn : MethodName := ⟨"BinWard$Pit", "takeIn", "(II)V"⟩
theorem d_Pit_takeIn_0 : Dc b_Pit_takeIn 0 (.aload_n 0) 1 1 := ⟨by decide +kernel, rfl⟩
theorem d_Pit_takeIn_1 : Dc b_Pit_takeIn 1 .dup 1 2 := ⟨by decide +kernel, rfl⟩
theorem d_Pit_takeIn_2 : Dc b_Pit_takeIn 2 (.getfield 7) 3 5 := ⟨by decide +kernel, rfl⟩
theorem d_Pit_takeIn_5 : Dc b_Pit_takeIn 5 (.iload_n 1) 1 6 := ⟨by decide +kernel, rfl⟩
theorem d_Pit_takeIn_6 : Dc b_Pit_takeIn 6 .iadd 1 7 := ⟨by decide +kernel, rfl⟩
theorem d_Pit_takeIn_7 : Dc b_Pit_takeIn 7 (.putfield 7) 3 10 := ⟨by decide +kernel, rfl⟩
theorem d_Pit_takeIn_10 : Dc b_Pit_takeIn 10 (.aload_n 0) 1 11 := ⟨by decide +kernel, rfl⟩
theorem d_Pit_takeIn_11 : Dc b_Pit_takeIn 11 .dup 1 12 := ⟨by decide +kernel, rfl⟩
theorem d_Pit_takeIn_12 : Dc b_Pit_takeIn 12 (.getfield 13) 3 15 := ⟨by decide +kernel, rfl⟩
theorem d_Pit_takeIn_15 : Dc b_Pit_takeIn 15 (.iload_n 2) 1 16 := ⟨by decide +kernel, rfl⟩
theorem d_Pit_takeIn_16 : Dc b_Pit_takeIn 16 .iadd 1 17 := ⟨by decide +kernel, rfl⟩
theorem d_Pit_takeIn_17 : Dc b_Pit_takeIn 17 (.putfield 13) 3 20 := ⟨by decide +kernel, rfl⟩
theorem d_Pit_takeIn_20 : Dc b_Pit_takeIn 20 (.aload_n 0) 1 21 := ⟨by decide +kernel, rfl⟩
theorem d_Pit_takeIn_21 : Dc b_Pit_takeIn 21 .dup 1 22 := ⟨by decide +kernel, rfl⟩
theorem d_Pit_takeIn_22 : Dc b_Pit_takeIn 22 (.getfield 16) 3 25 := ⟨by decide +kernel, rfl⟩
theorem d_Pit_takeIn_25 : Dc b_Pit_takeIn 25 (.iload_n 1) 1 26 := ⟨by decide +kernel, rfl⟩
theorem d_Pit_takeIn_26 : Dc b_Pit_takeIn 26 (.bipush 10) 2 28 := ⟨by decide +kernel, rfl⟩
theorem d_Pit_takeIn_28 : Dc b_Pit_takeIn 28 .idiv 1 29 := ⟨by decide +kernel, rfl⟩
theorem d_Pit_takeIn_29 : Dc b_Pit_takeIn 29 .iadd 1 30 := ⟨by decide +kernel, rfl⟩
theorem d_Pit_takeIn_30 : Dc b_Pit_takeIn 30 (.putfield 16) 3 33 := ⟨by decide +kernel, rfl⟩
theorem d_Pit_takeIn_33 : Dc b_Pit_takeIn 33 .return_ 1 34 := ⟨by decide +kernel, rfl⟩
abbrev b_Search_compare : ByteArray := prog_10_method_3_code
def y_Search_compare : MethodName := ⟨"BinWard$Search", "compare", "(III)V"⟩
theorem d_Search_compare_0 : Dc b_Search_compare 0 (.iload_n 1) 1 1 := ⟨by decide +kernel, rfl⟩
theorem d_Search_compare_1 : Dc b_Search_compare 1 (.aload_n 0) 1 2 := ⟨by decide +kernel, rfl⟩
theorem d_Search_compare_2 : Dc b_Search_compare 2 (.getfield 9) 3 5 := ⟨by decide +kernel, rfl⟩
theorem d_Search_compare_5 : Dj b_Search_compare 5 (.if_icmp .gt) 48 8 := ⟨43, by decide +kernel, by decide, rfl⟩
theorem d_Search_compare_8 : Dc b_Search_compare 8 (.iload_n 1) 1 9 := ⟨by decide +kernel, rfl⟩
theorem d_Search_compare_9 : Dc b_Search_compare 9 (.aload_n 0) 1 10 := ⟨by decide +kernel, rfl⟩
theorem d_Search_compare_10 : Dc b_Search_compare 10 (.getfield 9) 3 13 := ⟨by decide +kernel, rfl⟩
theorem d_Search_compare_13 : Dj b_Search_compare 13 (.if_icmp .ne) 24 16 := ⟨11, by decide +kernel, by decide, rfl⟩
theorem d_Search_compare_16 : Dc b_Search_compare 16 (.iload_n 2) 1 17 := ⟨by decide +kernel, rfl⟩
theorem d_Search_compare_17 : Dc b_Search_compare 17 (.aload_n 0) 1 18 := ⟨by decide +kernel, rfl⟩
theorem d_Search_compare_18 : Dc b_Search_compare 18 (.getfield 18) 3 21 := ⟨by decide +kernel, rfl⟩
theorem d_Search_compare_21 : Dj b_Search_compare 21 (.if_icmp .lt) 48 24 := ⟨27, by decide +kernel, by decide, rfl⟩
theorem d_Search_compare_24 : Dc b_Search_compare 24 (.iload_n 1) 1 25 := ⟨by decide +kernel, rfl⟩
theorem d_Search_compare_25 : Dc b_Search_compare 25 (.aload_n 0) 1 26 := ⟨by decide +kernel, rfl⟩
theorem d_Search_compare_26 : Dc b_Search_compare 26 (.getfield 9) 3 29 := ⟨by decide +kernel, rfl⟩
theorem d_Search_compare_29 : Dj b_Search_compare 29 (.if_icmp .ne) 52 32 := ⟨23, by decide +kernel, by decide, rfl⟩
theorem d_Search_compare_32 : Dc b_Search_compare 32 (.iload_n 2) 1 33 := ⟨by decide +kernel, rfl⟩
theorem d_Search_compare_33 : Dc b_Search_compare 33 (.aload_n 0) 1 34 := ⟨by decide +kernel, rfl⟩
theorem d_Search_compare_34 : Dc b_Search_compare 34 (.getfield 18) 3 37 := ⟨by decide +kernel, rfl⟩
theorem d_Search_compare_37 : Dj b_Search_compare 37 (.if_icmp .ne) 52 40 := ⟨15, by decide +kernel, by decide, rfl⟩
theorem d_Search_compare_40 : Dc b_Search_compare 40 (.iload_n 3) 1 41 := ⟨by decide +kernel, rfl⟩
theorem d_Search_compare_41 : Dc b_Search_compare 41 (.aload_n 0) 1 42 := ⟨by decide +kernel, rfl⟩
theorem d_Search_compare_42 : Dc b_Search_compare 42 (.getfield 15) 3 45 := ⟨by decide +kernel, rfl⟩
theorem d_Search_compare_45 : Dj b_Search_compare 45 (.if_icmp .ge) 52 48 := ⟨7, by decide +kernel, by decide, rfl⟩
theorem d_Search_compare_48 : Dc b_Search_compare 48 (.iconst 1) 1 49 := ⟨by decide +kernel, rfl⟩
theorem d_Search_compare_49 : Dj b_Search_compare 49 .goto 53 52 := ⟨4, by decide +kernel, by decide, rfl⟩
theorem d_Search_compare_52 : Dc b_Search_compare 52 (.iconst 0) 1 53 := ⟨by decide +kernel, rfl⟩
theorem d_Search_compare_53 : Dc b_Search_compare 53 (.istore 4) 2 55 := ⟨by decide +kernel, rfl⟩
theorem d_Search_compare_55 : Dc b_Search_compare 55 (.iload 4) 2 57 := ⟨by decide +kernel, rfl⟩
theorem d_Search_compare_57 : Dj b_Search_compare 57 (.ifCond .eq) 75 60 := ⟨18, by decide +kernel, by decide, rfl⟩
theorem d_Search_compare_60 : Dc b_Search_compare 60 (.aload_n 0) 1 61 := ⟨by decide +kernel, rfl⟩
theorem d_Search_compare_61 : Dc b_Search_compare 61 (.iload_n 1) 1 62 := ⟨by decide +kernel, rfl⟩
theorem d_Search_compare_62 : Dc b_Search_compare 62 (.putfield 9) 3 65 := ⟨by decide +kernel, rfl⟩
theorem d_Search_compare_65 : Dc b_Search_compare 65 (.aload_n 0) 1 66 := ⟨by decide +kernel, rfl⟩
theorem d_Search_compare_66 : Dc b_Search_compare 66 (.iload_n 2) 1 67 := ⟨by decide +kernel, rfl⟩
theorem d_Search_compare_67 : Dc b_Search_compare 67 (.putfield 18) 3 70 := ⟨by decide +kernel, rfl⟩
theorem d_Search_compare_70 : Dc b_Search_compare 70 (.aload_n 0) 1 71 := ⟨by decide +kernel, rfl⟩
theorem d_Search_compare_71 : Dc b_Search_compare 71 (.iload_n 3) 1 72 := ⟨by decide +kernel, rfl⟩
theorem d_Search_compare_72 : Dc b_Search_compare 72 (.putfield 15) 3 75 := ⟨by decide +kernel, rfl⟩
theorem d_Search_compare_75 : Dc b_Search_compare 75 .return_ 1 76 := ⟨by decide +kernel, rfl⟩
abbrev b_Search_init : ByteArray := prog_10_method_1_code
def y_Search_init : MethodName := ⟨"BinWard$Search", "<init>", "()V"⟩
theorem d_Search_init_0 : Dc b_Search_init 0 (.aload_n 0) 1 1 := ⟨by decide +kernel, rfl⟩
theorem d_Search_init_1 : Dc b_Search_init 1 (.invokespecial 3) 3 4 := ⟨by decide +kernel, rfl⟩
theorem d_Search_init_4 : Dc b_Search_init 4 .return_ 1 5 := ⟨by decide +kernel, rfl⟩
abbrev b_Search_isIn : ByteArray := prog_10_method_4_code
def y_Search_isIn : MethodName := ⟨"BinWard$Search", "isIn", "(II)Z"⟩
theorem d_Search_isIn_0 : Dc b_Search_isIn 0 (.iload_n 1) 1 1 := ⟨by decide +kernel, rfl⟩
theorem d_Search_isIn_1 : Dc b_Search_isIn 1 (.iload_n 0) 1 2 := ⟨by decide +kernel, rfl⟩
theorem d_Search_isIn_2 : Dc b_Search_isIn 2 .ishr 1 3 := ⟨by decide +kernel, rfl⟩
theorem d_Search_isIn_3 : Dc b_Search_isIn 3 (.iconst 1) 1 4 := ⟨by decide +kernel, rfl⟩
theorem d_Search_isIn_4 : Dc b_Search_isIn 4 .iand 1 5 := ⟨by decide +kernel, rfl⟩
theorem d_Search_isIn_5 : Dc b_Search_isIn 5 (.iconst 1) 1 6 := ⟨by decide +kernel, rfl⟩
theorem d_Search_isIn_6 : Dj b_Search_isIn 6 (.if_icmp .ne) 13 9 := ⟨7, by decide +kernel, by decide, rfl⟩
theorem d_Search_isIn_9 : Dc b_Search_isIn 9 (.iconst 1) 1 10 := ⟨by decide +kernel, rfl⟩
theorem d_Search_isIn_10 : Dj b_Search_isIn 10 .goto 14 13 := ⟨4, by decide +kernel, by decide, rfl⟩
theorem d_Search_isIn_13 : Dc b_Search_isIn 13 (.iconst 0) 1 14 := ⟨by decide +kernel, rfl⟩
theorem d_Search_isIn_14 : Dc b_Search_isIn 14 .ireturn 1 15 := ⟨by decide +kernel, rfl⟩
abbrev b_Search_kilosOf : ByteArray := prog_10_method_5_code
def y_Search_kilosOf : MethodName := ⟨"BinWard$Search", "kilosOf", "(LBinWard$Lorry;I[LBinWard$Street;)I"⟩
theorem d_Search_kilosOf_0 : Dc b_Search_kilosOf 0 (.iconst 0) 1 1 := ⟨by decide +kernel, rfl⟩
theorem d_Search_kilosOf_1 : Dc b_Search_kilosOf 1 (.istore_n 3) 1 2 := ⟨by decide +kernel, rfl⟩
theorem d_Search_kilosOf_2 : Dc b_Search_kilosOf 2 (.iconst 0) 1 3 := ⟨by decide +kernel, rfl⟩
theorem d_Search_kilosOf_3 : Dc b_Search_kilosOf 3 (.istore 4) 2 5 := ⟨by decide +kernel, rfl⟩
theorem d_Search_kilosOf_5 : Dc b_Search_kilosOf 5 (.iconst 0) 1 6 := ⟨by decide +kernel, rfl⟩
theorem d_Search_kilosOf_6 : Dc b_Search_kilosOf 6 (.istore 5) 2 8 := ⟨by decide +kernel, rfl⟩
theorem d_Search_kilosOf_8 : Dc b_Search_kilosOf 8 (.iload 5) 2 10 := ⟨by decide +kernel, rfl⟩
theorem d_Search_kilosOf_10 : Dc b_Search_kilosOf 10 (.aload_n 2) 1 11 := ⟨by decide +kernel, rfl⟩
theorem d_Search_kilosOf_11 : Dc b_Search_kilosOf 11 .arraylength 1 12 := ⟨by decide +kernel, rfl⟩
theorem d_Search_kilosOf_12 : Dj b_Search_kilosOf 12 (.if_icmp .ge) 64 15 := ⟨52, by decide +kernel, by decide, rfl⟩
theorem d_Search_kilosOf_15 : Dc b_Search_kilosOf 15 (.iload 5) 2 17 := ⟨by decide +kernel, rfl⟩
theorem d_Search_kilosOf_17 : Dc b_Search_kilosOf 17 (.iload_n 1) 1 18 := ⟨by decide +kernel, rfl⟩
theorem d_Search_kilosOf_18 : Dc b_Search_kilosOf 18 (.invokestatic 48) 3 21 := ⟨by decide +kernel, rfl⟩
theorem d_Search_kilosOf_21 : Dj b_Search_kilosOf 21 (.ifCond .eq) 58 24 := ⟨37, by decide +kernel, by decide, rfl⟩
theorem d_Search_kilosOf_24 : Dc b_Search_kilosOf 24 (.iload_n 3) 1 25 := ⟨by decide +kernel, rfl⟩
theorem d_Search_kilosOf_25 : Dc b_Search_kilosOf 25 (.aload_n 2) 1 26 := ⟨by decide +kernel, rfl⟩
theorem d_Search_kilosOf_26 : Dc b_Search_kilosOf 26 (.iload 5) 2 28 := ⟨by decide +kernel, rfl⟩
theorem d_Search_kilosOf_28 : Dc b_Search_kilosOf 28 .aaload 1 29 := ⟨by decide +kernel, rfl⟩
theorem d_Search_kilosOf_29 : Dc b_Search_kilosOf 29 (.aload_n 0) 1 30 := ⟨by decide +kernel, rfl⟩
theorem d_Search_kilosOf_30 : Dc b_Search_kilosOf 30 (.getfield 52) 3 33 := ⟨by decide +kernel, rfl⟩
theorem d_Search_kilosOf_33 : Dc b_Search_kilosOf 33 (.iconst 0) 1 34 := ⟨by decide +kernel, rfl⟩
theorem d_Search_kilosOf_34 : Dc b_Search_kilosOf 34 .iaload 1 35 := ⟨by decide +kernel, rfl⟩
theorem d_Search_kilosOf_35 : Dc b_Search_kilosOf 35 (.invokevirtual 56) 3 38 := ⟨by decide +kernel, rfl⟩
theorem d_Search_kilosOf_38 : Dc b_Search_kilosOf 38 .iadd 1 39 := ⟨by decide +kernel, rfl⟩
theorem d_Search_kilosOf_39 : Dc b_Search_kilosOf 39 (.istore_n 3) 1 40 := ⟨by decide +kernel, rfl⟩
theorem d_Search_kilosOf_40 : Dc b_Search_kilosOf 40 (.iload 4) 2 42 := ⟨by decide +kernel, rfl⟩
theorem d_Search_kilosOf_42 : Dc b_Search_kilosOf 42 (.aload_n 2) 1 43 := ⟨by decide +kernel, rfl⟩
theorem d_Search_kilosOf_43 : Dc b_Search_kilosOf 43 (.iload 5) 2 45 := ⟨by decide +kernel, rfl⟩
theorem d_Search_kilosOf_45 : Dc b_Search_kilosOf 45 .aaload 1 46 := ⟨by decide +kernel, rfl⟩
theorem d_Search_kilosOf_46 : Dc b_Search_kilosOf 46 (.aload_n 0) 1 47 := ⟨by decide +kernel, rfl⟩
theorem d_Search_kilosOf_47 : Dc b_Search_kilosOf 47 (.getfield 52) 3 50 := ⟨by decide +kernel, rfl⟩
theorem d_Search_kilosOf_50 : Dc b_Search_kilosOf 50 (.iconst 1) 1 51 := ⟨by decide +kernel, rfl⟩
theorem d_Search_kilosOf_51 : Dc b_Search_kilosOf 51 .iaload 1 52 := ⟨by decide +kernel, rfl⟩
theorem d_Search_kilosOf_52 : Dc b_Search_kilosOf 52 (.invokevirtual 56) 3 55 := ⟨by decide +kernel, rfl⟩
theorem d_Search_kilosOf_55 : Dc b_Search_kilosOf 55 .iadd 1 56 := ⟨by decide +kernel, rfl⟩
theorem d_Search_kilosOf_56 : Dc b_Search_kilosOf 56 (.istore 4) 2 58 := ⟨by decide +kernel, rfl⟩
theorem d_Search_kilosOf_58 : Dc b_Search_kilosOf 58 (.iinc 5 1) 3 61 := ⟨by decide +kernel, rfl⟩
theorem d_Search_kilosOf_61 : Dj b_Search_kilosOf 61 .goto 8 64 := ⟨-53, by decide +kernel, by decide, rfl⟩
theorem d_Search_kilosOf_64 : Dc b_Search_kilosOf 64 (.aload_n 0) 1 65 := ⟨by decide +kernel, rfl⟩
theorem d_Search_kilosOf_65 : Dc b_Search_kilosOf 65 (.getfield 52) 3 68 := ⟨by decide +kernel, rfl⟩
theorem d_Search_kilosOf_68 : Dc b_Search_kilosOf 68 (.iconst 0) 1 69 := ⟨by decide +kernel, rfl⟩
theorem d_Search_kilosOf_69 : Dc b_Search_kilosOf 69 .iaload 1 70 := ⟨by decide +kernel, rfl⟩
theorem d_Search_kilosOf_70 : Dc b_Search_kilosOf 70 (.aload_n 0) 1 71 := ⟨by decide +kernel, rfl⟩
theorem d_Search_kilosOf_71 : Dc b_Search_kilosOf 71 (.getfield 52) 3 74 := ⟨by decide +kernel, rfl⟩
theorem d_Search_kilosOf_74 : Dc b_Search_kilosOf 74 (.iconst 1) 1 75 := ⟨by decide +kernel, rfl⟩
theorem d_Search_kilosOf_75 : Dc b_Search_kilosOf 75 .iaload 1 76 := ⟨by decide +kernel, rfl⟩
theorem d_Search_kilosOf_76 : Dj b_Search_kilosOf 76 (.if_icmp .ne) 87 79 := ⟨11, by decide +kernel, by decide, rfl⟩
theorem d_Search_kilosOf_79 : Dc b_Search_kilosOf 79 (.iload_n 3) 1 80 := ⟨by decide +kernel, rfl⟩
theorem d_Search_kilosOf_80 : Dc b_Search_kilosOf 80 (.sipush 300) 3 83 := ⟨by decide +kernel, rfl⟩
theorem d_Search_kilosOf_83 : Dc b_Search_kilosOf 83 (.invokestatic 61) 3 86 := ⟨by decide +kernel, rfl⟩
theorem d_Search_kilosOf_86 : Dc b_Search_kilosOf 86 .ireturn 1 87 := ⟨by decide +kernel, rfl⟩
theorem d_Search_kilosOf_87 : Dc b_Search_kilosOf 87 (.iload_n 3) 1 88 := ⟨by decide +kernel, rfl⟩
theorem d_Search_kilosOf_88 : Dc b_Search_kilosOf 88 (.sipush 150) 3 91 := ⟨by decide +kernel, rfl⟩
theorem d_Search_kilosOf_91 : Dc b_Search_kilosOf 91 (.invokestatic 61) 3 94 := ⟨by decide +kernel, rfl⟩
theorem d_Search_kilosOf_94 : Dc b_Search_kilosOf 94 (.iload 4) 2 96 := ⟨by decide +kernel, rfl⟩
theorem d_Search_kilosOf_96 : Dc b_Search_kilosOf 96 (.sipush 150) 3 99 := ⟨by decide +kernel, rfl⟩
theorem d_Search_kilosOf_99 : Dc b_Search_kilosOf 99 (.invokestatic 61) 3 102 := ⟨by decide +kernel, rfl⟩
theorem d_Search_kilosOf_102 : Dc b_Search_kilosOf 102 .iadd 1 103 := ⟨by decide +kernel, rfl⟩
theorem d_Search_kilosOf_103 : Dc b_Search_kilosOf 103 .ireturn 1 104 := ⟨by decide +kernel, rfl⟩
abbrev b_Search_run : ByteArray := prog_10_method_2_code
def y_Search_run : MethodName := ⟨"BinWard$Search", "run", "(LBinWard$Lorry;[LBinWard$Street;I)V"⟩
theorem d_Search_run_0 : Dc b_Search_run 0 (.aload_n 0) 1 1 := ⟨by decide +kernel, rfl⟩
theorem d_Search_run_1 : Dc b_Search_run 1 (.iconst 0) 1 2 := ⟨by decide +kernel, rfl⟩
theorem d_Search_run_2 : Dc b_Search_run 2 (.putfield 9) 3 5 := ⟨by decide +kernel, rfl⟩
theorem d_Search_run_5 : Dc b_Search_run 5 (.aload_n 0) 1 6 := ⟨by decide +kernel, rfl⟩
theorem d_Search_run_6 : Dc b_Search_run 6 (.iconst 1) 1 7 := ⟨by decide +kernel, rfl⟩
theorem d_Search_run_7 : Dc b_Search_run 7 (.putfield 15) 3 10 := ⟨by decide +kernel, rfl⟩
theorem d_Search_run_10 : Dc b_Search_run 10 (.aload_n 0) 1 11 := ⟨by decide +kernel, rfl⟩
theorem d_Search_run_11 : Dc b_Search_run 11 (.iconst 0) 1 12 := ⟨by decide +kernel, rfl⟩
theorem d_Search_run_12 : Dc b_Search_run 12 (.putfield 18) 3 15 := ⟨by decide +kernel, rfl⟩
theorem d_Search_run_15 : Dc b_Search_run 15 (.iconst 1) 1 16 := ⟨by decide +kernel, rfl⟩
theorem d_Search_run_16 : Dc b_Search_run 16 (.istore 4) 2 18 := ⟨by decide +kernel, rfl⟩
theorem d_Search_run_18 : Dc b_Search_run 18 (.iload 4) 2 20 := ⟨by decide +kernel, rfl⟩
theorem d_Search_run_20 : Dc b_Search_run 20 (.iconst 1) 1 21 := ⟨by decide +kernel, rfl⟩
theorem d_Search_run_21 : Dc b_Search_run 21 (.iload_n 3) 1 22 := ⟨by decide +kernel, rfl⟩
theorem d_Search_run_22 : Dc b_Search_run 22 .ishl 1 23 := ⟨by decide +kernel, rfl⟩
theorem d_Search_run_23 : Dj b_Search_run 23 (.if_icmp .ge) 86 26 := ⟨63, by decide +kernel, by decide, rfl⟩
theorem d_Search_run_26 : Dc b_Search_run 26 (.iconst 0) 1 27 := ⟨by decide +kernel, rfl⟩
theorem d_Search_run_27 : Dc b_Search_run 27 (.iload 4) 2 29 := ⟨by decide +kernel, rfl⟩
theorem d_Search_run_29 : Dc b_Search_run 29 (.aload_n 2) 1 30 := ⟨by decide +kernel, rfl⟩
theorem d_Search_run_30 : Dc b_Search_run 30 (.invokestatic 21) 3 33 := ⟨by decide +kernel, rfl⟩
theorem d_Search_run_33 : Dc b_Search_run 33 (.iconst 2) 1 34 := ⟨by decide +kernel, rfl⟩
theorem d_Search_run_34 : Dc b_Search_run 34 (.iload 4) 2 36 := ⟨by decide +kernel, rfl⟩
theorem d_Search_run_36 : Dc b_Search_run 36 (.invokestatic 25) 3 39 := ⟨by decide +kernel, rfl⟩
theorem d_Search_run_39 : Dc b_Search_run 39 .imul 1 40 := ⟨by decide +kernel, rfl⟩
theorem d_Search_run_40 : Dc b_Search_run 40 .iadd 1 41 := ⟨by decide +kernel, rfl⟩
theorem d_Search_run_41 : Dc b_Search_run 41 (.istore 5) 2 43 := ⟨by decide +kernel, rfl⟩
theorem d_Search_run_43 : Dc b_Search_run 43 (.aload_n 1) 1 44 := ⟨by decide +kernel, rfl⟩
theorem d_Search_run_44 : Dc b_Search_run 44 (.iload 4) 2 46 := ⟨by decide +kernel, rfl⟩
theorem d_Search_run_46 : Dc b_Search_run 46 (.aload_n 2) 1 47 := ⟨by decide +kernel, rfl⟩
theorem d_Search_run_47 : Dc b_Search_run 47 (.invokestatic 31) 3 50 := ⟨by decide +kernel, rfl⟩
theorem d_Search_run_50 : Dc b_Search_run 50 (.istore 6) 2 52 := ⟨by decide +kernel, rfl⟩
theorem d_Search_run_52 : Dc b_Search_run 52 (.iload 5) 2 54 := ⟨by decide +kernel, rfl⟩
theorem d_Search_run_54 : Dc b_Search_run 54 (.aload_n 1) 1 55 := ⟨by decide +kernel, rfl⟩
theorem d_Search_run_55 : Dc b_Search_run 55 (.getfield 35) 3 58 := ⟨by decide +kernel, rfl⟩
theorem d_Search_run_58 : Dj b_Search_run 58 (.if_icmp .gt) 80 61 := ⟨22, by decide +kernel, by decide, rfl⟩
theorem d_Search_run_61 : Dc b_Search_run 61 (.iload 6) 2 63 := ⟨by decide +kernel, rfl⟩
theorem d_Search_run_63 : Dj b_Search_run 63 (.ifCond .le) 80 66 := ⟨17, by decide +kernel, by decide, rfl⟩
theorem d_Search_run_66 : Dc b_Search_run 66 (.aload_n 0) 1 67 := ⟨by decide +kernel, rfl⟩
theorem d_Search_run_67 : Dc b_Search_run 67 (.iload 6) 2 69 := ⟨by decide +kernel, rfl⟩
theorem d_Search_run_69 : Dc b_Search_run 69 (.iload 5) 2 71 := ⟨by decide +kernel, rfl⟩
theorem d_Search_run_71 : Dc b_Search_run 71 (.iload 4) 2 73 := ⟨by decide +kernel, rfl⟩
theorem d_Search_run_73 : Dc b_Search_run 73 (.aload_n 2) 1 74 := ⟨by decide +kernel, rfl⟩
theorem d_Search_run_74 : Dc b_Search_run 74 (.invokestatic 40) 3 77 := ⟨by decide +kernel, rfl⟩
theorem d_Search_run_77 : Dc b_Search_run 77 (.invokevirtual 44) 3 80 := ⟨by decide +kernel, rfl⟩
theorem d_Search_run_80 : Dc b_Search_run 80 (.iinc 4 1) 3 83 := ⟨by decide +kernel, rfl⟩
theorem d_Search_run_83 : Dj b_Search_run 83 .goto 18 86 := ⟨-65, by decide +kernel, by decide, rfl⟩
theorem d_Search_run_86 : Dc b_Search_run 86 .return_ 1 87 := ⟨by decide +kernel, rfl⟩
abbrev b_Search_smallestNext : ByteArray := prog_10_method_8_code
def y_Search_smallestNext : MethodName := ⟨"BinWard$Search", "smallestNext", "(II[LBinWard$Street;)I"⟩
theorem d_Search_smallestNext_0 : Dc b_Search_smallestNext 0 (.iload_n 0) 1 1 := ⟨by decide +kernel, rfl⟩
theorem d_Search_smallestNext_1 : Dc b_Search_smallestNext 1 (.iload_n 1) 1 2 := ⟨by decide +kernel, rfl⟩
theorem d_Search_smallestNext_2 : Dc b_Search_smallestNext 2 (.aload_n 2) 1 3 := ⟨by decide +kernel, rfl⟩
theorem d_Search_smallestNext_3 : Dc b_Search_smallestNext 3 (.invokestatic 21) 3 6 := ⟨by decide +kernel, rfl⟩
theorem d_Search_smallestNext_6 : Dc b_Search_smallestNext 6 (.istore_n 3) 1 7 := ⟨by decide +kernel, rfl⟩
theorem d_Search_smallestNext_7 : Dc b_Search_smallestNext 7 (.iconst 0) 1 8 := ⟨by decide +kernel, rfl⟩
theorem d_Search_smallestNext_8 : Dc b_Search_smallestNext 8 (.istore 4) 2 10 := ⟨by decide +kernel, rfl⟩
theorem d_Search_smallestNext_10 : Dc b_Search_smallestNext 10 (.iload 4) 2 12 := ⟨by decide +kernel, rfl⟩
theorem d_Search_smallestNext_12 : Dc b_Search_smallestNext 12 (.aload_n 2) 1 13 := ⟨by decide +kernel, rfl⟩
theorem d_Search_smallestNext_13 : Dc b_Search_smallestNext 13 .arraylength 1 14 := ⟨by decide +kernel, rfl⟩
theorem d_Search_smallestNext_14 : Dj b_Search_smallestNext 14 (.if_icmp .ge) 74 17 := ⟨60, by decide +kernel, by decide, rfl⟩
theorem d_Search_smallestNext_17 : Dc b_Search_smallestNext 17 (.iload 4) 2 19 := ⟨by decide +kernel, rfl⟩
theorem d_Search_smallestNext_19 : Dc b_Search_smallestNext 19 (.iload_n 1) 1 20 := ⟨by decide +kernel, rfl⟩
theorem d_Search_smallestNext_20 : Dc b_Search_smallestNext 20 (.invokestatic 48) 3 23 := ⟨by decide +kernel, rfl⟩
theorem d_Search_smallestNext_23 : Dj b_Search_smallestNext 23 (.ifCond .eq) 68 26 := ⟨45, by decide +kernel, by decide, rfl⟩
theorem d_Search_smallestNext_26 : Dc b_Search_smallestNext 26 (.aload_n 2) 1 27 := ⟨by decide +kernel, rfl⟩
theorem d_Search_smallestNext_27 : Dc b_Search_smallestNext 27 (.iload 4) 2 29 := ⟨by decide +kernel, rfl⟩
theorem d_Search_smallestNext_29 : Dc b_Search_smallestNext 29 .aaload 1 30 := ⟨by decide +kernel, rfl⟩
theorem d_Search_smallestNext_30 : Dc b_Search_smallestNext 30 (.getfield 67) 3 33 := ⟨by decide +kernel, rfl⟩
theorem d_Search_smallestNext_33 : Dc b_Search_smallestNext 33 (.istore 5) 2 35 := ⟨by decide +kernel, rfl⟩
theorem d_Search_smallestNext_35 : Dc b_Search_smallestNext 35 (.iload 5) 2 37 := ⟨by decide +kernel, rfl⟩
theorem d_Search_smallestNext_37 : Dc b_Search_smallestNext 37 (.iload_n 0) 1 38 := ⟨by decide +kernel, rfl⟩
theorem d_Search_smallestNext_38 : Dc b_Search_smallestNext 38 .isub 1 39 := ⟨by decide +kernel, rfl⟩
theorem d_Search_smallestNext_39 : Dc b_Search_smallestNext 39 (.invokestatic 76) 3 42 := ⟨by decide +kernel, rfl⟩
theorem d_Search_smallestNext_42 : Dc b_Search_smallestNext 42 (.iload 5) 2 44 := ⟨by decide +kernel, rfl⟩
theorem d_Search_smallestNext_44 : Dc b_Search_smallestNext 44 (.iload_n 1) 1 45 := ⟨by decide +kernel, rfl⟩
theorem d_Search_smallestNext_45 : Dc b_Search_smallestNext 45 (.iconst 1) 1 46 := ⟨by decide +kernel, rfl⟩
theorem d_Search_smallestNext_46 : Dc b_Search_smallestNext 46 (.iload 4) 2 48 := ⟨by decide +kernel, rfl⟩
theorem d_Search_smallestNext_48 : Dc b_Search_smallestNext 48 .ishl 1 49 := ⟨by decide +kernel, rfl⟩
theorem d_Search_smallestNext_49 : Dc b_Search_smallestNext 49 (.iconst (-1)) 1 50 := ⟨by decide +kernel, rfl⟩
theorem d_Search_smallestNext_50 : Dc b_Search_smallestNext 50 .ixor 1 51 := ⟨by decide +kernel, rfl⟩
theorem d_Search_smallestNext_51 : Dc b_Search_smallestNext 51 .iand 1 52 := ⟨by decide +kernel, rfl⟩
theorem d_Search_smallestNext_52 : Dc b_Search_smallestNext 52 (.aload_n 2) 1 53 := ⟨by decide +kernel, rfl⟩
theorem d_Search_smallestNext_53 : Dc b_Search_smallestNext 53 (.invokestatic 21) 3 56 := ⟨by decide +kernel, rfl⟩
theorem d_Search_smallestNext_56 : Dc b_Search_smallestNext 56 .iadd 1 57 := ⟨by decide +kernel, rfl⟩
theorem d_Search_smallestNext_57 : Dc b_Search_smallestNext 57 (.istore 6) 2 59 := ⟨by decide +kernel, rfl⟩
theorem d_Search_smallestNext_59 : Dc b_Search_smallestNext 59 (.iload 6) 2 61 := ⟨by decide +kernel, rfl⟩
theorem d_Search_smallestNext_61 : Dc b_Search_smallestNext 61 (.iload_n 3) 1 62 := ⟨by decide +kernel, rfl⟩
theorem d_Search_smallestNext_62 : Dj b_Search_smallestNext 62 (.if_icmp .ne) 68 65 := ⟨6, by decide +kernel, by decide, rfl⟩
theorem d_Search_smallestNext_65 : Dc b_Search_smallestNext 65 (.iload 4) 2 67 := ⟨by decide +kernel, rfl⟩
theorem d_Search_smallestNext_67 : Dc b_Search_smallestNext 67 .ireturn 1 68 := ⟨by decide +kernel, rfl⟩
theorem d_Search_smallestNext_68 : Dc b_Search_smallestNext 68 (.iinc 4 1) 3 71 := ⟨by decide +kernel, rfl⟩
theorem d_Search_smallestNext_71 : Dj b_Search_smallestNext 71 .goto 10 74 := ⟨-61, by decide +kernel, by decide, rfl⟩
theorem d_Search_smallestNext_74 : Dc b_Search_smallestNext 74 (.iconst 0) 1 75 := ⟨by decide +kernel, rfl⟩
theorem d_Search_smallestNext_75 : Dc b_Search_smallestNext 75 .ireturn 1 76 := ⟨by decide +kernel, rfl⟩
abbrev b_Search_smallestNumber : ByteArray := prog_10_method_7_code
def y_Search_smallestNumber : MethodName := ⟨"BinWard$Search", "smallestNumber", "(I[LBinWard$Street;)I"⟩
theorem d_Search_smallestNumber_0 : Dc b_Search_smallestNumber 0 (.iconst 1) 1 1 := ⟨by decide +kernel, rfl⟩
theorem d_Search_smallestNumber_1 : Dc b_Search_smallestNumber 1 (.istore_n 2) 1 2 := ⟨by decide +kernel, rfl⟩
theorem d_Search_smallestNumber_2 : Dc b_Search_smallestNumber 2 (.iconst 0) 1 3 := ⟨by decide +kernel, rfl⟩
theorem d_Search_smallestNumber_3 : Dc b_Search_smallestNumber 3 (.istore_n 3) 1 4 := ⟨by decide +kernel, rfl⟩
theorem d_Search_smallestNumber_4 : Dc b_Search_smallestNumber 4 (.iload_n 0) 1 5 := ⟨by decide +kernel, rfl⟩
theorem d_Search_smallestNumber_5 : Dc b_Search_smallestNumber 5 (.istore 4) 2 7 := ⟨by decide +kernel, rfl⟩
theorem d_Search_smallestNumber_7 : Dc b_Search_smallestNumber 7 (.iconst 0) 1 8 := ⟨by decide +kernel, rfl⟩
theorem d_Search_smallestNumber_8 : Dc b_Search_smallestNumber 8 (.istore 5) 2 10 := ⟨by decide +kernel, rfl⟩
theorem d_Search_smallestNumber_10 : Dc b_Search_smallestNumber 10 (.iload 5) 2 12 := ⟨by decide +kernel, rfl⟩
theorem d_Search_smallestNumber_12 : Dc b_Search_smallestNumber 12 (.aload_n 1) 1 13 := ⟨by decide +kernel, rfl⟩
theorem d_Search_smallestNumber_13 : Dc b_Search_smallestNumber 13 .arraylength 1 14 := ⟨by decide +kernel, rfl⟩
theorem d_Search_smallestNumber_14 : Dj b_Search_smallestNumber 14 (.if_icmp .ge) 64 17 := ⟨50, by decide +kernel, by decide, rfl⟩
theorem d_Search_smallestNumber_17 : Dc b_Search_smallestNumber 17 (.iload 4) 2 19 := ⟨by decide +kernel, rfl⟩
theorem d_Search_smallestNumber_19 : Dj b_Search_smallestNumber 19 (.ifCond .eq) 64 22 := ⟨45, by decide +kernel, by decide, rfl⟩
theorem d_Search_smallestNumber_22 : Dc b_Search_smallestNumber 22 (.iload_n 3) 1 23 := ⟨by decide +kernel, rfl⟩
theorem d_Search_smallestNumber_23 : Dc b_Search_smallestNumber 23 (.iload 4) 2 25 := ⟨by decide +kernel, rfl⟩
theorem d_Search_smallestNumber_25 : Dc b_Search_smallestNumber 25 (.aload_n 1) 1 26 := ⟨by decide +kernel, rfl⟩
theorem d_Search_smallestNumber_26 : Dc b_Search_smallestNumber 26 (.invokestatic 73) 3 29 := ⟨by decide +kernel, rfl⟩
theorem d_Search_smallestNumber_29 : Dc b_Search_smallestNumber 29 (.istore 6) 2 31 := ⟨by decide +kernel, rfl⟩
theorem d_Search_smallestNumber_31 : Dc b_Search_smallestNumber 31 (.bipush 10) 2 33 := ⟨by decide +kernel, rfl⟩
theorem d_Search_smallestNumber_33 : Dc b_Search_smallestNumber 33 (.iload_n 2) 1 34 := ⟨by decide +kernel, rfl⟩
theorem d_Search_smallestNumber_34 : Dc b_Search_smallestNumber 34 .imul 1 35 := ⟨by decide +kernel, rfl⟩
theorem d_Search_smallestNumber_35 : Dc b_Search_smallestNumber 35 (.iload 6) 2 37 := ⟨by decide +kernel, rfl⟩
theorem d_Search_smallestNumber_37 : Dc b_Search_smallestNumber 37 .iadd 1 38 := ⟨by decide +kernel, rfl⟩
theorem d_Search_smallestNumber_38 : Dc b_Search_smallestNumber 38 (.istore_n 2) 1 39 := ⟨by decide +kernel, rfl⟩
theorem d_Search_smallestNumber_39 : Dc b_Search_smallestNumber 39 (.aload_n 1) 1 40 := ⟨by decide +kernel, rfl⟩
theorem d_Search_smallestNumber_40 : Dc b_Search_smallestNumber 40 (.iload 6) 2 42 := ⟨by decide +kernel, rfl⟩
theorem d_Search_smallestNumber_42 : Dc b_Search_smallestNumber 42 .aaload 1 43 := ⟨by decide +kernel, rfl⟩
theorem d_Search_smallestNumber_43 : Dc b_Search_smallestNumber 43 (.getfield 67) 3 46 := ⟨by decide +kernel, rfl⟩
theorem d_Search_smallestNumber_46 : Dc b_Search_smallestNumber 46 (.istore_n 3) 1 47 := ⟨by decide +kernel, rfl⟩
theorem d_Search_smallestNumber_47 : Dc b_Search_smallestNumber 47 (.iload 4) 2 49 := ⟨by decide +kernel, rfl⟩
theorem d_Search_smallestNumber_49 : Dc b_Search_smallestNumber 49 (.iconst 1) 1 50 := ⟨by decide +kernel, rfl⟩
theorem d_Search_smallestNumber_50 : Dc b_Search_smallestNumber 50 (.iload 6) 2 52 := ⟨by decide +kernel, rfl⟩
theorem d_Search_smallestNumber_52 : Dc b_Search_smallestNumber 52 .ishl 1 53 := ⟨by decide +kernel, rfl⟩
theorem d_Search_smallestNumber_53 : Dc b_Search_smallestNumber 53 (.iconst (-1)) 1 54 := ⟨by decide +kernel, rfl⟩
theorem d_Search_smallestNumber_54 : Dc b_Search_smallestNumber 54 .ixor 1 55 := ⟨by decide +kernel, rfl⟩
theorem d_Search_smallestNumber_55 : Dc b_Search_smallestNumber 55 .iand 1 56 := ⟨by decide +kernel, rfl⟩
theorem d_Search_smallestNumber_56 : Dc b_Search_smallestNumber 56 (.istore 4) 2 58 := ⟨by decide +kernel, rfl⟩
theorem d_Search_smallestNumber_58 : Dc b_Search_smallestNumber 58 (.iinc 5 1) 3 61 := ⟨by decide +kernel, rfl⟩
theorem d_Search_smallestNumber_61 : Dj b_Search_smallestNumber 61 .goto 10 64 := ⟨-51, by decide +kernel, by decide, rfl⟩
theorem d_Search_smallestNumber_64 : Dc b_Search_smallestNumber 64 (.iload_n 2) 1 65 := ⟨by decide +kernel, rfl⟩
theorem d_Search_smallestNumber_65 : Dc b_Search_smallestNumber 65 .ireturn 1 66 := ⟨by decide +kernel, rfl⟩
abbrev b_Search_wayHome : ByteArray := prog_10_method_6_code
def y_Search_wayHome : MethodName := ⟨"BinWard$Search", "wayHome", "(II[LBinWard$Street;)I"⟩
theorem d_Search_wayHome_0 : Dc b_Search_wayHome 0 (.iload_n 0) 1 1 := ⟨by decide +kernel, rfl⟩
theorem d_Search_wayHome_1 : Dc b_Search_wayHome 1 (.istore_n 3) 1 2 := ⟨by decide +kernel, rfl⟩
theorem d_Search_wayHome_2 : Dc b_Search_wayHome 2 (.iconst 0) 1 3 := ⟨by decide +kernel, rfl⟩
theorem d_Search_wayHome_3 : Dc b_Search_wayHome 3 (.istore 4) 2 5 := ⟨by decide +kernel, rfl⟩
theorem d_Search_wayHome_5 : Dc b_Search_wayHome 5 (.iload 4) 2 7 := ⟨by decide +kernel, rfl⟩
theorem d_Search_wayHome_7 : Dc b_Search_wayHome 7 (.aload_n 2) 1 8 := ⟨by decide +kernel, rfl⟩
theorem d_Search_wayHome_8 : Dc b_Search_wayHome 8 .arraylength 1 9 := ⟨by decide +kernel, rfl⟩
theorem d_Search_wayHome_9 : Dj b_Search_wayHome 9 (.if_icmp .ge) 39 12 := ⟨30, by decide +kernel, by decide, rfl⟩
theorem d_Search_wayHome_12 : Dc b_Search_wayHome 12 (.iload 4) 2 14 := ⟨by decide +kernel, rfl⟩
theorem d_Search_wayHome_14 : Dc b_Search_wayHome 14 (.iload_n 1) 1 15 := ⟨by decide +kernel, rfl⟩
theorem d_Search_wayHome_15 : Dc b_Search_wayHome 15 (.invokestatic 48) 3 18 := ⟨by decide +kernel, rfl⟩
theorem d_Search_wayHome_18 : Dj b_Search_wayHome 18 (.ifCond .eq) 33 21 := ⟨15, by decide +kernel, by decide, rfl⟩
theorem d_Search_wayHome_21 : Dc b_Search_wayHome 21 (.iload_n 3) 1 22 := ⟨by decide +kernel, rfl⟩
theorem d_Search_wayHome_22 : Dc b_Search_wayHome 22 (.aload_n 2) 1 23 := ⟨by decide +kernel, rfl⟩
theorem d_Search_wayHome_23 : Dc b_Search_wayHome 23 (.iload 4) 2 25 := ⟨by decide +kernel, rfl⟩
theorem d_Search_wayHome_25 : Dc b_Search_wayHome 25 .aaload 1 26 := ⟨by decide +kernel, rfl⟩
theorem d_Search_wayHome_26 : Dc b_Search_wayHome 26 (.getfield 67) 3 29 := ⟨by decide +kernel, rfl⟩
theorem d_Search_wayHome_29 : Dc b_Search_wayHome 29 (.invokestatic 70) 3 32 := ⟨by decide +kernel, rfl⟩
theorem d_Search_wayHome_32 : Dc b_Search_wayHome 32 (.istore_n 3) 1 33 := ⟨by decide +kernel, rfl⟩
theorem d_Search_wayHome_33 : Dc b_Search_wayHome 33 (.iinc 4 1) 3 36 := ⟨by decide +kernel, rfl⟩
theorem d_Search_wayHome_36 : Dj b_Search_wayHome 36 .goto 5 39 := ⟨-31, by decide +kernel, by decide, rfl⟩
theorem d_Search_wayHome_39 : Dc b_Search_wayHome 39 (.iconst 2) 1 40 := ⟨by decide +kernel, rfl⟩
theorem d_Search_wayHome_40 : Dc b_Search_wayHome 40 (.iload_n 3) 1 41 := ⟨by decide +kernel, rfl⟩
theorem d_Search_wayHome_41 : Dc b_Search_wayHome 41 .imul 1 42 := ⟨by decide +kernel, rfl⟩
theorem d_Search_wayHome_42 : Dc b_Search_wayHome 42 (.iload_n 0) 1 43 := ⟨by decide +kernel, rfl⟩
theorem d_Search_wayHome_43 : Dc b_Search_wayHome 43 .isub 1 44 := ⟨by decide +kernel, rfl⟩
theorem d_Search_wayHome_44 : Dc b_Search_wayHome 44 .ireturn 1 45 := ⟨by decide +kernel, rfl⟩
abbrev b_Street_copyBins : ByteArray := prog_11_method_6_code
def y_Street_copyBins : MethodName := ⟨"BinWard$Street", "copyBins", "(LBinWard$Street;)V"⟩
theorem d_Street_copyBins_0 : Dc b_Street_copyBins 0 (.aload_n 0) 1 1 := ⟨by decide +kernel, rfl⟩
theorem d_Street_copyBins_1 : Dc b_Street_copyBins 1 (.aload_n 1) 1 2 := ⟨by decide +kernel, rfl⟩
theorem d_Street_copyBins_2 : Dc b_Street_copyBins 2 (.getfield 47) 3 5 := ⟨by decide +kernel, rfl⟩
theorem d_Street_copyBins_5 : Dc b_Street_copyBins 5 (.putfield 47) 3 8 := ⟨by decide +kernel, rfl⟩
theorem d_Street_copyBins_8 : Dc b_Street_copyBins 8 (.aload_n 0) 1 9 := ⟨by decide +kernel, rfl⟩
theorem d_Street_copyBins_9 : Dc b_Street_copyBins 9 (.aload_n 1) 1 10 := ⟨by decide +kernel, rfl⟩
theorem d_Street_copyBins_10 : Dc b_Street_copyBins 10 (.getfield 28) 3 13 := ⟨by decide +kernel, rfl⟩
theorem d_Street_copyBins_13 : Dc b_Street_copyBins 13 (.putfield 28) 3 16 := ⟨by decide +kernel, rfl⟩
theorem d_Street_copyBins_16 : Dc b_Street_copyBins 16 (.aload_n 0) 1 17 := ⟨by decide +kernel, rfl⟩
theorem d_Street_copyBins_17 : Dc b_Street_copyBins 17 (.aload_n 1) 1 18 := ⟨by decide +kernel, rfl⟩
theorem d_Street_copyBins_18 : Dc b_Street_copyBins 18 (.getfield 41) 3 21 := ⟨by decide +kernel, rfl⟩
theorem d_Street_copyBins_21 : Dc b_Street_copyBins 21 (.putfield 41) 3 24 := ⟨by decide +kernel, rfl⟩
theorem d_Street_copyBins_24 : Dc b_Street_copyBins 24 (.iconst 0) 1 25 := ⟨by decide +kernel, rfl⟩
theorem d_Street_copyBins_25 : Dc b_Street_copyBins 25 (.istore_n 2) 1 26 := ⟨by decide +kernel, rfl⟩
theorem d_Street_copyBins_26 : Dc b_Street_copyBins 26 (.iload_n 2) 1 27 := ⟨by decide +kernel, rfl⟩
theorem d_Street_copyBins_27 : Dc b_Street_copyBins 27 (.iconst 3) 1 28 := ⟨by decide +kernel, rfl⟩
theorem d_Street_copyBins_28 : Dj b_Street_copyBins 28 (.if_icmp .ge) 73 31 := ⟨45, by decide +kernel, by decide, rfl⟩
theorem d_Street_copyBins_31 : Dc b_Street_copyBins 31 (.aload_n 0) 1 32 := ⟨by decide +kernel, rfl⟩
theorem d_Street_copyBins_32 : Dc b_Street_copyBins 32 (.getfield 9) 3 35 := ⟨by decide +kernel, rfl⟩
theorem d_Street_copyBins_35 : Dc b_Street_copyBins 35 (.iload_n 2) 1 36 := ⟨by decide +kernel, rfl⟩
theorem d_Street_copyBins_36 : Dc b_Street_copyBins 36 (.aload_n 1) 1 37 := ⟨by decide +kernel, rfl⟩
theorem d_Street_copyBins_37 : Dc b_Street_copyBins 37 (.getfield 9) 3 40 := ⟨by decide +kernel, rfl⟩
theorem d_Street_copyBins_40 : Dc b_Street_copyBins 40 (.iload_n 2) 1 41 := ⟨by decide +kernel, rfl⟩
theorem d_Street_copyBins_41 : Dc b_Street_copyBins 41 .iaload 1 42 := ⟨by decide +kernel, rfl⟩
theorem d_Street_copyBins_42 : Dc b_Street_copyBins 42 .iastore 1 43 := ⟨by decide +kernel, rfl⟩
theorem d_Street_copyBins_43 : Dc b_Street_copyBins 43 (.aload_n 0) 1 44 := ⟨by decide +kernel, rfl⟩
theorem d_Street_copyBins_44 : Dc b_Street_copyBins 44 (.getfield 15) 3 47 := ⟨by decide +kernel, rfl⟩
theorem d_Street_copyBins_47 : Dc b_Street_copyBins 47 (.iload_n 2) 1 48 := ⟨by decide +kernel, rfl⟩
theorem d_Street_copyBins_48 : Dc b_Street_copyBins 48 (.aload_n 1) 1 49 := ⟨by decide +kernel, rfl⟩
theorem d_Street_copyBins_49 : Dc b_Street_copyBins 49 (.getfield 15) 3 52 := ⟨by decide +kernel, rfl⟩
theorem d_Street_copyBins_52 : Dc b_Street_copyBins 52 (.iload_n 2) 1 53 := ⟨by decide +kernel, rfl⟩
theorem d_Street_copyBins_53 : Dc b_Street_copyBins 53 .iaload 1 54 := ⟨by decide +kernel, rfl⟩
theorem d_Street_copyBins_54 : Dc b_Street_copyBins 54 .iastore 1 55 := ⟨by decide +kernel, rfl⟩
theorem d_Street_copyBins_55 : Dc b_Street_copyBins 55 (.aload_n 0) 1 56 := ⟨by decide +kernel, rfl⟩
theorem d_Street_copyBins_56 : Dc b_Street_copyBins 56 (.getfield 18) 3 59 := ⟨by decide +kernel, rfl⟩
theorem d_Street_copyBins_59 : Dc b_Street_copyBins 59 (.iload_n 2) 1 60 := ⟨by decide +kernel, rfl⟩
theorem d_Street_copyBins_60 : Dc b_Street_copyBins 60 (.aload_n 1) 1 61 := ⟨by decide +kernel, rfl⟩
theorem d_Street_copyBins_61 : Dc b_Street_copyBins 61 (.getfield 18) 3 64 := ⟨by decide +kernel, rfl⟩
theorem d_Street_copyBins_64 : Dc b_Street_copyBins 64 (.iload_n 2) 1 65 := ⟨by decide +kernel, rfl⟩
theorem d_Street_copyBins_65 : Dc b_Street_copyBins 65 .iaload 1 66 := ⟨by decide +kernel, rfl⟩
theorem d_Street_copyBins_66 : Dc b_Street_copyBins 66 .iastore 1 67 := ⟨by decide +kernel, rfl⟩
theorem d_Street_copyBins_67 : Dc b_Street_copyBins 67 (.iinc 2 1) 3 70 := ⟨by decide +kernel, rfl⟩
theorem d_Street_copyBins_70 : Dj b_Street_copyBins 70 .goto 26 73 := ⟨-44, by decide +kernel, by decide, rfl⟩
theorem d_Street_copyBins_73 : Dc b_Street_copyBins 73 .return_ 1 74 := ⟨by decide +kernel, rfl⟩
abbrev b_Street_init : ByteArray := prog_11_method_1_code
def y_Street_init : MethodName := ⟨"BinWard$Street", "<init>", "()V"⟩
theorem d_Street_init_0 : Dc b_Street_init 0 (.aload_n 0) 1 1 := ⟨by decide +kernel, rfl⟩
theorem d_Street_init_1 : Dc b_Street_init 1 (.invokespecial 3) 3 4 := ⟨by decide +kernel, rfl⟩
theorem d_Street_init_4 : Dc b_Street_init 4 (.aload_n 0) 1 5 := ⟨by decide +kernel, rfl⟩
theorem d_Street_init_5 : Dc b_Street_init 5 (.iconst 3) 1 6 := ⟨by decide +kernel, rfl⟩
theorem d_Street_init_6 : Dc b_Street_init 6 (.newarray .int) 2 8 := ⟨by decide +kernel, rfl⟩
theorem d_Street_init_8 : Dc b_Street_init 8 (.putfield 9) 3 11 := ⟨by decide +kernel, rfl⟩
theorem d_Street_init_11 : Dc b_Street_init 11 (.aload_n 0) 1 12 := ⟨by decide +kernel, rfl⟩
theorem d_Street_init_12 : Dc b_Street_init 12 (.iconst 3) 1 13 := ⟨by decide +kernel, rfl⟩
theorem d_Street_init_13 : Dc b_Street_init 13 (.newarray .int) 2 15 := ⟨by decide +kernel, rfl⟩
theorem d_Street_init_15 : Dc b_Street_init 15 (.putfield 15) 3 18 := ⟨by decide +kernel, rfl⟩
theorem d_Street_init_18 : Dc b_Street_init 18 (.aload_n 0) 1 19 := ⟨by decide +kernel, rfl⟩
theorem d_Street_init_19 : Dc b_Street_init 19 (.iconst 3) 1 20 := ⟨by decide +kernel, rfl⟩
theorem d_Street_init_20 : Dc b_Street_init 20 (.newarray .int) 2 22 := ⟨by decide +kernel, rfl⟩
theorem d_Street_init_22 : Dc b_Street_init 22 (.putfield 18) 3 25 := ⟨by decide +kernel, rfl⟩
theorem d_Street_init_25 : Dc b_Street_init 25 (.aload_n 0) 1 26 := ⟨by decide +kernel, rfl⟩
theorem d_Street_init_26 : Dc b_Street_init 26 (.iconst 3) 1 27 := ⟨by decide +kernel, rfl⟩
theorem d_Street_init_27 : Dc b_Street_init 27 (.newarray .int) 2 29 := ⟨by decide +kernel, rfl⟩
theorem d_Street_init_29 : Dc b_Street_init 29 (.putfield 21) 3 32 := ⟨by decide +kernel, rfl⟩
theorem d_Street_init_32 : Dc b_Street_init 32 .return_ 1 33 := ⟨by decide +kernel, rfl⟩
abbrev b_Street_kilosIn : ByteArray := prog_11_method_2_code
def y_Street_kilosIn : MethodName := ⟨"BinWard$Street", "kilosIn", "(I)I"⟩
theorem d_Street_kilosIn_0 : Dc b_Street_kilosIn 0 (.aload_n 0) 1 1 := ⟨by decide +kernel, rfl⟩
theorem d_Street_kilosIn_1 : Dc b_Street_kilosIn 1 (.getfield 15) 3 4 := ⟨by decide +kernel, rfl⟩
theorem d_Street_kilosIn_4 : Dc b_Street_kilosIn 4 (.iload_n 1) 1 5 := ⟨by decide +kernel, rfl⟩
theorem d_Street_kilosIn_5 : Dc b_Street_kilosIn 5 .iaload 1 6 := ⟨by decide +kernel, rfl⟩
theorem d_Street_kilosIn_6 : Dc b_Street_kilosIn 6 (.aload_n 0) 1 7 := ⟨by decide +kernel, rfl⟩
theorem d_Street_kilosIn_7 : Dc b_Street_kilosIn 7 (.getfield 18) 3 10 := ⟨by decide +kernel, rfl⟩
theorem d_Street_kilosIn_10 : Dc b_Street_kilosIn 10 (.iload_n 1) 1 11 := ⟨by decide +kernel, rfl⟩
theorem d_Street_kilosIn_11 : Dc b_Street_kilosIn 11 .iaload 1 12 := ⟨by decide +kernel, rfl⟩
theorem d_Street_kilosIn_12 : Dc b_Street_kilosIn 12 .iadd 1 13 := ⟨by decide +kernel, rfl⟩
theorem d_Street_kilosIn_13 : Dc b_Street_kilosIn 13 .ireturn 1 14 := ⟨by decide +kernel, rfl⟩
abbrev b_Street_owes : ByteArray := prog_11_method_5_code
def y_Street_owes : MethodName := ⟨"BinWard$Street", "owes", "()I"⟩
theorem d_Street_owes_0 : Dc b_Street_owes 0 (.iconst 3) 1 1 := ⟨by decide +kernel, rfl⟩
theorem d_Street_owes_1 : Dc b_Street_owes 1 (.aload_n 0) 1 2 := ⟨by decide +kernel, rfl⟩
theorem d_Street_owes_2 : Dc b_Street_owes 2 (.getfield 21) 3 5 := ⟨by decide +kernel, rfl⟩
theorem d_Street_owes_5 : Dc b_Street_owes 5 (.iconst 0) 1 6 := ⟨by decide +kernel, rfl⟩
theorem d_Street_owes_6 : Dc b_Street_owes 6 .iaload 1 7 := ⟨by decide +kernel, rfl⟩
theorem d_Street_owes_7 : Dc b_Street_owes 7 .imul 1 8 := ⟨by decide +kernel, rfl⟩
theorem d_Street_owes_8 : Dc b_Street_owes 8 (.aload_n 0) 1 9 := ⟨by decide +kernel, rfl⟩
theorem d_Street_owes_9 : Dc b_Street_owes 9 (.getfield 21) 3 12 := ⟨by decide +kernel, rfl⟩
theorem d_Street_owes_12 : Dc b_Street_owes 12 (.iconst 2) 1 13 := ⟨by decide +kernel, rfl⟩
theorem d_Street_owes_13 : Dc b_Street_owes 13 .iaload 1 14 := ⟨by decide +kernel, rfl⟩
theorem d_Street_owes_14 : Dc b_Street_owes 14 .iadd 1 15 := ⟨by decide +kernel, rfl⟩
theorem d_Street_owes_15 : Dc b_Street_owes 15 (.iconst 2) 1 16 := ⟨by decide +kernel, rfl⟩
theorem d_Street_owes_16 : Dc b_Street_owes 16 (.aload_n 0) 1 17 := ⟨by decide +kernel, rfl⟩
theorem d_Street_owes_17 : Dc b_Street_owes 17 (.getfield 44) 3 20 := ⟨by decide +kernel, rfl⟩
theorem d_Street_owes_20 : Dc b_Street_owes 20 .imul 1 21 := ⟨by decide +kernel, rfl⟩
theorem d_Street_owes_21 : Dc b_Street_owes 21 .isub 1 22 := ⟨by decide +kernel, rfl⟩
theorem d_Street_owes_22 : Dc b_Street_owes 22 .ireturn 1 23 := ⟨by decide +kernel, rfl⟩
abbrev b_Street_roomIn : ByteArray := prog_11_method_3_code
def y_Street_roomIn : MethodName := ⟨"BinWard$Street", "roomIn", "(I)I"⟩
theorem d_Street_roomIn_0 : Dc b_Street_roomIn 0 (.bipush 60) 2 2 := ⟨by decide +kernel, rfl⟩
theorem d_Street_roomIn_2 : Dc b_Street_roomIn 2 (.aload_n 0) 1 3 := ⟨by decide +kernel, rfl⟩
theorem d_Street_roomIn_3 : Dc b_Street_roomIn 3 (.iload_n 1) 1 4 := ⟨by decide +kernel, rfl⟩
theorem d_Street_roomIn_4 : Dc b_Street_roomIn 4 (.invokevirtual 24) 3 7 := ⟨by decide +kernel, rfl⟩
theorem d_Street_roomIn_7 : Dc b_Street_roomIn 7 .isub 1 8 := ⟨by decide +kernel, rfl⟩
theorem d_Street_roomIn_8 : Dc b_Street_roomIn 8 .ireturn 1 9 := ⟨by decide +kernel, rfl⟩
abbrev b_Street_throwAway : ByteArray := prog_11_method_4_code
def y_Street_throwAway : MethodName := ⟨"BinWard$Street", "throwAway", "()V"⟩
theorem d_Street_throwAway_0 : Dc b_Street_throwAway 0 (.iconst 0) 1 1 := ⟨by decide +kernel, rfl⟩
theorem d_Street_throwAway_1 : Dc b_Street_throwAway 1 (.istore_n 1) 1 2 := ⟨by decide +kernel, rfl⟩
theorem d_Street_throwAway_2 : Dc b_Street_throwAway 2 (.iload_n 1) 1 3 := ⟨by decide +kernel, rfl⟩
theorem d_Street_throwAway_3 : Dc b_Street_throwAway 3 (.iconst 3) 1 4 := ⟨by decide +kernel, rfl⟩
theorem d_Street_throwAway_4 : Dj b_Street_throwAway 4 (.if_icmp .ge) 107 7 := ⟨103, by decide +kernel, by decide, rfl⟩
theorem d_Street_throwAway_7 : Dc b_Street_throwAway 7 (.iload_n 1) 1 8 := ⟨by decide +kernel, rfl⟩
theorem d_Street_throwAway_8 : Dj b_Street_throwAway 8 (.ifCond .ne) 15 11 := ⟨7, by decide +kernel, by decide, rfl⟩
theorem d_Street_throwAway_11 : Dc b_Street_throwAway 11 (.iconst 0) 1 12 := ⟨by decide +kernel, rfl⟩
theorem d_Street_throwAway_12 : Dj b_Street_throwAway 12 .goto 29 15 := ⟨17, by decide +kernel, by decide, rfl⟩
theorem d_Street_throwAway_15 : Dc b_Street_throwAway 15 (.aload_n 0) 1 16 := ⟨by decide +kernel, rfl⟩
theorem d_Street_throwAway_16 : Dc b_Street_throwAway 16 (.getfield 9) 3 19 := ⟨by decide +kernel, rfl⟩
theorem d_Street_throwAway_19 : Dc b_Street_throwAway 19 (.iload_n 1) 1 20 := ⟨by decide +kernel, rfl⟩
theorem d_Street_throwAway_20 : Dc b_Street_throwAway 20 .iaload 1 21 := ⟨by decide +kernel, rfl⟩
theorem d_Street_throwAway_21 : Dc b_Street_throwAway 21 (.aload_n 0) 1 22 := ⟨by decide +kernel, rfl⟩
theorem d_Street_throwAway_22 : Dc b_Street_throwAway 22 (.getfield 28) 3 25 := ⟨by decide +kernel, rfl⟩
theorem d_Street_throwAway_25 : Dc b_Street_throwAway 25 .imul 1 26 := ⟨by decide +kernel, rfl⟩
theorem d_Street_throwAway_26 : Dc b_Street_throwAway 26 (.bipush 10) 2 28 := ⟨by decide +kernel, rfl⟩
theorem d_Street_throwAway_28 : Dc b_Street_throwAway 28 .idiv 1 29 := ⟨by decide +kernel, rfl⟩
theorem d_Street_throwAway_29 : Dc b_Street_throwAway 29 (.istore_n 2) 1 30 := ⟨by decide +kernel, rfl⟩
theorem d_Street_throwAway_30 : Dc b_Street_throwAway 30 (.aload_n 0) 1 31 := ⟨by decide +kernel, rfl⟩
theorem d_Street_throwAway_31 : Dc b_Street_throwAway 31 (.getfield 9) 3 34 := ⟨by decide +kernel, rfl⟩
theorem d_Street_throwAway_34 : Dc b_Street_throwAway 34 (.iload_n 1) 1 35 := ⟨by decide +kernel, rfl⟩
theorem d_Street_throwAway_35 : Dc b_Street_throwAway 35 .iaload 1 36 := ⟨by decide +kernel, rfl⟩
theorem d_Street_throwAway_36 : Dc b_Street_throwAway 36 (.iload_n 2) 1 37 := ⟨by decide +kernel, rfl⟩
theorem d_Street_throwAway_37 : Dc b_Street_throwAway 37 .isub 1 38 := ⟨by decide +kernel, rfl⟩
theorem d_Street_throwAway_38 : Dc b_Street_throwAway 38 (.istore_n 3) 1 39 := ⟨by decide +kernel, rfl⟩
theorem d_Street_throwAway_39 : Dc b_Street_throwAway 39 (.iload_n 3) 1 40 := ⟨by decide +kernel, rfl⟩
theorem d_Street_throwAway_40 : Dc b_Street_throwAway 40 (.aload_n 0) 1 41 := ⟨by decide +kernel, rfl⟩
theorem d_Street_throwAway_41 : Dc b_Street_throwAway 41 (.iload_n 1) 1 42 := ⟨by decide +kernel, rfl⟩
theorem d_Street_throwAway_42 : Dc b_Street_throwAway 42 (.invokevirtual 32) 3 45 := ⟨by decide +kernel, rfl⟩
theorem d_Street_throwAway_45 : Dc b_Street_throwAway 45 (.invokestatic 35) 3 48 := ⟨by decide +kernel, rfl⟩
theorem d_Street_throwAway_48 : Dc b_Street_throwAway 48 (.istore 4) 2 50 := ⟨by decide +kernel, rfl⟩
theorem d_Street_throwAway_50 : Dc b_Street_throwAway 50 (.aload_n 0) 1 51 := ⟨by decide +kernel, rfl⟩
theorem d_Street_throwAway_51 : Dc b_Street_throwAway 51 (.getfield 15) 3 54 := ⟨by decide +kernel, rfl⟩
theorem d_Street_throwAway_54 : Dc b_Street_throwAway 54 (.iload_n 1) 1 55 := ⟨by decide +kernel, rfl⟩
theorem d_Street_throwAway_55 : Dc b_Street_throwAway 55 .dup2 1 56 := ⟨by decide +kernel, rfl⟩
theorem d_Street_throwAway_56 : Dc b_Street_throwAway 56 .iaload 1 57 := ⟨by decide +kernel, rfl⟩
theorem d_Street_throwAway_57 : Dc b_Street_throwAway 57 (.iload 4) 2 59 := ⟨by decide +kernel, rfl⟩
theorem d_Street_throwAway_59 : Dc b_Street_throwAway 59 .iadd 1 60 := ⟨by decide +kernel, rfl⟩
theorem d_Street_throwAway_60 : Dc b_Street_throwAway 60 .iastore 1 61 := ⟨by decide +kernel, rfl⟩
theorem d_Street_throwAway_61 : Dc b_Street_throwAway 61 (.iload_n 2) 1 62 := ⟨by decide +kernel, rfl⟩
theorem d_Street_throwAway_62 : Dc b_Street_throwAway 62 (.aload_n 0) 1 63 := ⟨by decide +kernel, rfl⟩
theorem d_Street_throwAway_63 : Dc b_Street_throwAway 63 (.iload_n 1) 1 64 := ⟨by decide +kernel, rfl⟩
theorem d_Street_throwAway_64 : Dc b_Street_throwAway 64 (.invokevirtual 32) 3 67 := ⟨by decide +kernel, rfl⟩
theorem d_Street_throwAway_67 : Dc b_Street_throwAway 67 (.invokestatic 35) 3 70 := ⟨by decide +kernel, rfl⟩
theorem d_Street_throwAway_70 : Dc b_Street_throwAway 70 (.istore 5) 2 72 := ⟨by decide +kernel, rfl⟩
theorem d_Street_throwAway_72 : Dc b_Street_throwAway 72 (.aload_n 0) 1 73 := ⟨by decide +kernel, rfl⟩
theorem d_Street_throwAway_73 : Dc b_Street_throwAway 73 (.getfield 18) 3 76 := ⟨by decide +kernel, rfl⟩
theorem d_Street_throwAway_76 : Dc b_Street_throwAway 76 (.iload_n 1) 1 77 := ⟨by decide +kernel, rfl⟩
theorem d_Street_throwAway_77 : Dc b_Street_throwAway 77 .dup2 1 78 := ⟨by decide +kernel, rfl⟩
theorem d_Street_throwAway_78 : Dc b_Street_throwAway 78 .iaload 1 79 := ⟨by decide +kernel, rfl⟩
theorem d_Street_throwAway_79 : Dc b_Street_throwAway 79 (.iload 5) 2 81 := ⟨by decide +kernel, rfl⟩
theorem d_Street_throwAway_81 : Dc b_Street_throwAway 81 .iadd 1 82 := ⟨by decide +kernel, rfl⟩
theorem d_Street_throwAway_82 : Dc b_Street_throwAway 82 .iastore 1 83 := ⟨by decide +kernel, rfl⟩
theorem d_Street_throwAway_83 : Dc b_Street_throwAway 83 (.aload_n 0) 1 84 := ⟨by decide +kernel, rfl⟩
theorem d_Street_throwAway_84 : Dc b_Street_throwAway 84 .dup 1 85 := ⟨by decide +kernel, rfl⟩
theorem d_Street_throwAway_85 : Dc b_Street_throwAway 85 (.getfield 41) 3 88 := ⟨by decide +kernel, rfl⟩
theorem d_Street_throwAway_88 : Dc b_Street_throwAway 88 (.iload_n 3) 1 89 := ⟨by decide +kernel, rfl⟩
theorem d_Street_throwAway_89 : Dc b_Street_throwAway 89 (.iload 4) 2 91 := ⟨by decide +kernel, rfl⟩
theorem d_Street_throwAway_91 : Dc b_Street_throwAway 91 .isub 1 92 := ⟨by decide +kernel, rfl⟩
theorem d_Street_throwAway_92 : Dc b_Street_throwAway 92 (.iload_n 2) 1 93 := ⟨by decide +kernel, rfl⟩
theorem d_Street_throwAway_93 : Dc b_Street_throwAway 93 .iadd 1 94 := ⟨by decide +kernel, rfl⟩
theorem d_Street_throwAway_94 : Dc b_Street_throwAway 94 (.iload 5) 2 96 := ⟨by decide +kernel, rfl⟩
theorem d_Street_throwAway_96 : Dc b_Street_throwAway 96 .isub 1 97 := ⟨by decide +kernel, rfl⟩
theorem d_Street_throwAway_97 : Dc b_Street_throwAway 97 .iadd 1 98 := ⟨by decide +kernel, rfl⟩
theorem d_Street_throwAway_98 : Dc b_Street_throwAway 98 (.putfield 41) 3 101 := ⟨by decide +kernel, rfl⟩
theorem d_Street_throwAway_101 : Dc b_Street_throwAway 101 (.iinc 1 1) 3 104 := ⟨by decide +kernel, rfl⟩
theorem d_Street_throwAway_104 : Dj b_Street_throwAway 104 .goto 2 107 := ⟨-102, by decide +kernel, by decide, rfl⟩
theorem d_Street_throwAway_107 : Dc b_Street_throwAway 107 .return_ 1 108 := ⟨by decide +kernel, rfl⟩
end
section
/-! THE WORLD: a city's cells, by names (kind, index); its numbers: a state (field, index, place) -/
abbrev St : Type := Nat → Nat → Nat → Int
def iI (z : Int) : Int32 := Int32.ofInt z
def nt (z : Int) : Value := .int (iI z)
def sU (S : St) (f i j : Nat) (v : Int) : St := fun f' i' j' => if f' = f ∧ i' = i ∧ j' = j then v else S f' i' j'
theorem sU_eq {S : St} {f i j : Nat} {v : Int} : sU S f i j v f i j = v := by simp [sU]
theorem sU_nf {S : St} {f i j f' i' j' : Nat} {v : Int} (h : f' ≠ f) : sU S f i j v f' i' j' = S f' i' j' := if_neg (fun q => h q.1)
theorem sU_ni {S : St} {f i j f' i' j' : Nat} {v : Int} (h : i' ≠ i) : sU S f i j v f' i' j' = S f' i' j' := if_neg (fun q => h q.2.1)
theorem sU_nj {S : St} {f i j f' i' j' : Nat} {v : Int} (h : j' ≠ j) : sU S f i j v f' i' j' = S f' i' j' := if_neg (fun q => h q.2.2)
abbrev Gm : Type := Launch × va_G × (Nat → ClassId) × Nat × (Nat → Nat) × Nat × Nat × (Nat → Int32)
abbrev gL (Γ : Gm) : Launch := Γ.1
abbrev gD (Γ : Gm) : va_G := Γ.2.1
abbrev gC (Γ : Gm) : Nat → ClassId := Γ.2.2.1
abbrev gB (Γ : Gm) : Nat := Γ.2.2.2.1
abbrev gA (Γ : Gm) : Nat → Nat := Γ.2.2.2.2.1
abbrev gX (Γ : Gm) : Nat × Nat × (Nat → Int32) := Γ.2.2.2.2.2
def gF (Γ : Gm) : Nat → Prop := fun q => gB Γ ≤ q
def off (k i : Nat) : Nat := match k with
  | 0 => 0
  | 1 => 1 + i
  | 2 => 3
  | 3 => if i = 3 then 4 else 107 + 14 * i
  | 4 => if i = 3 then 5 else 108 + 14 * i
  | 5 => if i = 3 then 6 else 109 + 14 * i
  | 6 => 7
  | 7 => 8
  | 8 => 10
  | 9 => 11
  | 10 => 12
  | 11 => 13 + i
  | 12 => 33
  | 13 => 34
  | 14 => 35
  | 15 => 36 + 5 * i
  | 16 => 37 + 5 * i
  | 17 => 38 + 5 * i
  | 18 => 39 + 5 * i
  | 19 => 40 + 5 * i
  | 20 => 96 + 14 * i
  | 21 => 97 + 14 * i
  | 22 => 98 + 14 * i
  | 23 => 99 + 14 * (i / 7) + i % 7
  | 24 => 106 + 14 * i
  | 25 => 9
  | _ => 138
def cnt (k : Nat) : Nat := [1,2,1,4,4,4,1,1,1,1,1,20,1,1,1,12,12,12,12,12,3,3,3,21,3,1].getD k 0
def nmL : List (Nat × Nat) := [(0, 0), (1, 0), (1, 1), (2, 0), (3, 3), (4, 3), (5, 3), (6, 0), (7, 0), (25, 0), (8, 0), (9, 0), (10, 0), (11, 0), (11, 1), (11, 2), (11, 3), (11, 4), (11, 5), (11, 6), (11, 7), (11, 8), (11, 9), (11, 10), (11, 11), (11, 12), (11, 13), (11, 14), (11, 15), (11, 16), (11, 17), (11, 18), (11, 19), (12, 0), (13, 0), (14, 0), (15, 0), (16, 0), (17, 0), (18, 0), (19, 0), (15, 1), (16, 1), (17, 1), (18, 1), (19, 1), (15, 2), (16, 2), (17, 2), (18, 2), (19, 2), (15, 3), (16, 3), (17, 3), (18, 3), (19, 3), (15, 4), (16, 4), (17, 4), (18, 4), (19, 4), (15, 5), (16, 5), (17, 5), (18, 5), (19, 5), (15, 6), (16, 6), (17, 6), (18, 6), (19, 6), (15, 7), (16, 7), (17, 7), (18, 7), (19, 7), (15, 8), (16, 8), (17, 8), (18, 8), (19, 8), (15, 9), (16, 9), (17, 9), (18, 9), (19, 9), (15, 10), (16, 10), (17, 10), (18, 10), (19, 10), (15, 11), (16, 11), (17, 11), (18, 11), (19, 11), (20, 0), (21, 0), (22, 0), (23, 0), (23, 1), (23, 2), (23, 3), (23, 4), (23, 5), (23, 6), (24, 0), (3, 0), (4, 0), (5, 0), (20, 1), (21, 1), (22, 1), (23, 7), (23, 8), (23, 9), (23, 10), (23, 11), (23, 12), (23, 13), (24, 1), (3, 1), (4, 1), (5, 1), (20, 2), (21, 2), (22, 2), (23, 14), (23, 15), (23, 16), (23, 17), (23, 18), (23, 19), (23, 20), (24, 2), (3, 2), (4, 2), (5, 2)]
theorem nm_ok : ∀ k, k < 26 → ∀ i, i < cnt k → nmL[off k i]? = some (k, i) := by decide +kernel
theorem nm_len : nmL.length = 138 := by decide +kernel
theorem nm_9 : ∀ k, k < 25 → ∀ i, i < cnt k → off k i ≠ 9 := by decide +kernel
def fkL : List Nat := [0, 0, 0, 0, 99, 99, 99, 99, 99, 99, 15, 15, 15, 15, 15, 16, 17, 18, 19, 99, 20, 20, 20, 20, 20, 21, 24, 23, 99, 99, 3, 3, 3, 3, 4, 5, 99, 99, 99, 99, 6, 6, 6, 99, 99, 8, 8, 8, 99, 99, 9, 9, 9, 99, 99, 11, 11, 11, 11, 99, 12, 12, 12, 12, 12, 13, 13, 13, 13, 13, 14, 14, 14, 14, 99, 99, 99, 99, 99, 99, 25, 7, 25, 99, 99, 99, 99, 99, 99, 99]
def fk (f : Nat) : Nat := fkL.getD f 99
def rf (Γ : Gm) (k i : Nat) : Value := .ref (gA Γ (off k i))
/-- the cell of a name -/
def CL (Γ : Gm) (S : St) (k i : Nat) : va_E := match k with
  | 0 => .inr (11, [rf Γ 1 0, rf Γ 1 1, nt (S 0 i 0), rf Γ 2 0, nt (S 1 i 0), rf Γ 3 3, rf Γ 6 0, rf Γ 7 0, rf Γ 8 0, rf Γ 9 0, rf Γ 12 0, rf Γ 13 0, rf Γ 14 0, nt (S 2 i 0), nt (S 3 i 0)])
  | 1 => .inl (gC Γ 1, 6, .inr (.inr (.inr (.inr (fun j => some (gA Γ (off 15 (2 * j + i))))))))
  | 2 => .inl (gC Γ 2, 3, .inr (.inr (.inr (.inr (fun j => some (gA Γ (off 20 j)))))))
  | 3 => .inr (10, [rf Γ 4 i, rf Γ 5 i, nt (S 30 i 0), nt (S 31 i 0), nt (S 32 i 0), nt (S 33 i 0)])
  | 4 => .inl (gC Γ 0, 2, .inl (fun j => iI (S 34 i j)))
  | 5 => .inl (gC Γ 0, 2, .inl (fun j => iI (S 35 i j)))
  | 6 => .inr (8, [nt (S 40 i 0), nt (S 41 i 0), nt (S 42 i 0)])
  | 7 => .inr (2, [.ref (S 81 i 0).toNat])
  | 8 => .inr (5, [nt (S 45 i 0), nt (S 46 i 0), nt (S 47 i 0)])
  | 9 => .inr (1, [nt (S 50 i 0), nt (S 51 i 0), rf Γ 10 0, nt (S 52 i 0)])
  | 10 => .inl (gC Γ 3, 20, .inr (.inr (.inr (.inr (fun j => some (gA Γ (off 11 j)))))))
  | 11 => .inr (0, [nt (S 55 i 0), nt (S 56 i 0), nt (S 57 i 0), nt (S 58 i 0)])
  | 12 => .inr (3, [nt (S 60 i 0), nt (S 61 i 0), nt (S 62 i 0), nt (S 63 i 0), nt (S 64 i 0)])
  | 13 => .inr (4, [nt (S 65 i 0), nt (S 66 i 0), nt (S 67 i 0), nt (S 68 i 0), nt (S 69 i 0)])
  | 14 => .inr (7, [nt (S 70 i 0), nt (S 71 i 0), nt (S 72 i 0), nt (S 73 i 0)])
  | 15 => .inr (9, [nt (S 10 i 0), nt (S 11 i 0), nt (S 12 i 0), rf Γ 16 i, rf Γ 17 i, rf Γ 18 i, rf Γ 19 i, nt (S 13 i 0), nt (S 14 i 0)])
  | 16 => .inl (gC Γ 0, 3, .inl (fun j => iI (S 15 i j)))
  | 17 => .inl (gC Γ 0, 3, .inl (fun j => iI (S 16 i j)))
  | 18 => .inl (gC Γ 0, 3, .inl (fun j => iI (S 17 i j)))
  | 19 => .inl (gC Γ 0, 3, .inl (fun j => iI (S 18 i j)))
  | 20 => .inr (6, [nt (S 20 i 0), rf Γ 21 i, rf Γ 22 i, rf Γ 24 i, rf Γ 3 i, nt (S 21 i 0), nt (S 22 i 0), nt (S 23 i 0), nt (S 24 i 0)])
  | 21 => .inl (gC Γ 0, 2, .inl (fun j => iI (S 25 i j)))
  | 22 => .inl (gC Γ 4, 7, .inr (.inr (.inr (.inr (fun j => some (gA Γ (off 23 (7 * i + j))))))))
  | 23 => .inl (gC Γ 0, 6, .inl (fun j => iI (S 27 i j)))
  | 24 => .inl (gC Γ 0, 7, .inl (fun j => iI (S 26 i j)))
  | 25 => .inl (gC Γ 0, (S 82 i 0).toNat, .inl (fun j => iI (S 80 i j)))
  | _ => .inr (0, [])
theorem CL_congr (Γ : Gm) {S S' : St} {k i : Nat} (h : ∀ f j, fk f = k → S f i j = S' f i j) : CL Γ S k i = CL Γ S' k i := by
  match k, h with
  | 0, h => simp only [CL, h 0 0 rfl, h 1 0 rfl, h 2 0 rfl, h 3 0 rfl]
  | 1, h => rfl
  | 2, h => rfl
  | 3, h => simp only [CL, h 30 0 rfl, h 31 0 rfl, h 32 0 rfl, h 33 0 rfl]
  | 4, h => simp only [CL, (show (fun j => iI (S 34 i j)) = (fun j => iI (S' 34 i j)) from funext fun j => congrArg iI (h 34 j rfl))]
  | 5, h => simp only [CL, (show (fun j => iI (S 35 i j)) = (fun j => iI (S' 35 i j)) from funext fun j => congrArg iI (h 35 j rfl))]
  | 6, h => simp only [CL, h 40 0 rfl, h 41 0 rfl, h 42 0 rfl]
  | 7, h => simp only [CL, h 81 0 rfl]
  | 8, h => simp only [CL, h 45 0 rfl, h 46 0 rfl, h 47 0 rfl]
  | 9, h => simp only [CL, h 50 0 rfl, h 51 0 rfl, h 52 0 rfl]
  | 10, h => rfl
  | 11, h => simp only [CL, h 55 0 rfl, h 56 0 rfl, h 57 0 rfl, h 58 0 rfl]
  | 12, h => simp only [CL, h 60 0 rfl, h 61 0 rfl, h 62 0 rfl, h 63 0 rfl, h 64 0 rfl]
  | 13, h => simp only [CL, h 65 0 rfl, h 66 0 rfl, h 67 0 rfl, h 68 0 rfl, h 69 0 rfl]
  | 14, h => simp only [CL, h 70 0 rfl, h 71 0 rfl, h 72 0 rfl, h 73 0 rfl]
  | 15, h => simp only [CL, h 10 0 rfl, h 11 0 rfl, h 12 0 rfl, h 13 0 rfl, h 14 0 rfl]
  | 16, h => simp only [CL, (show (fun j => iI (S 15 i j)) = (fun j => iI (S' 15 i j)) from funext fun j => congrArg iI (h 15 j rfl))]
  | 17, h => simp only [CL, (show (fun j => iI (S 16 i j)) = (fun j => iI (S' 16 i j)) from funext fun j => congrArg iI (h 16 j rfl))]
  | 18, h => simp only [CL, (show (fun j => iI (S 17 i j)) = (fun j => iI (S' 17 i j)) from funext fun j => congrArg iI (h 17 j rfl))]
  | 19, h => simp only [CL, (show (fun j => iI (S 18 i j)) = (fun j => iI (S' 18 i j)) from funext fun j => congrArg iI (h 18 j rfl))]
  | 20, h => simp only [CL, h 20 0 rfl, h 21 0 rfl, h 22 0 rfl, h 23 0 rfl, h 24 0 rfl]
  | 21, h => simp only [CL, (show (fun j => iI (S 25 i j)) = (fun j => iI (S' 25 i j)) from funext fun j => congrArg iI (h 25 j rfl))]
  | 22, h => rfl
  | 23, h => simp only [CL, (show (fun j => iI (S 27 i j)) = (fun j => iI (S' 27 i j)) from funext fun j => congrArg iI (h 27 j rfl))]
  | 24, h => simp only [CL, (show (fun j => iI (S 26 i j)) = (fun j => iI (S' 26 i j)) from funext fun j => congrArg iI (h 26 j rfl))]
  | 25, h => simp only [CL, (show (fun j => iI (S 80 i j)) = (fun j => iI (S' 80 i j)) from funext fun j => congrArg iI (h 80 j rfl)), h 82 0 rfl]
  | k + 26, h => rfl
/-- the address of the cell at a place -/
def adr (Γ : Gm) (S : St) (n : Nat) : Nat := if n = 9 then (S 81 0 0).toNat else gA Γ n
/-- the law's own row of numbers, while it is there -/
def fl (Γ : Gm) (S : St) : va_W := if S 87 0 0 = 0 then [] else [((S 86 0 0).toNat, .inl (gC Γ 0, (S 87 0 0).toNat, .inl (fun j => iI (S 85 0 j))))]
def wm (Γ : Gm) (S : St) : va_W := (List.range 138).map (fun n => (adr Γ S n, CL Γ S (nmL.getD n (99, 0)).1 (nmL.getD n (99, 0)).2))
def wl (Γ : Gm) (S : St) : va_W := wm Γ S ++ fl Γ S
theorem wm_len (Γ : Gm) (S : St) : (wm Γ S).length = 138 := by simp [wm]
theorem wm_get (Γ : Gm) (S : St) {n : Nat} (h : n < 138) : (wm Γ S)[n]? = some (adr Γ S n, CL Γ S (nmL.getD n (99, 0)).1 (nmL.getD n (99, 0)).2) := by
  unfold wm
  rw [List.getElem?_map, List.getElem?_range h]
  rfl
theorem off_lt {k i : Nat} (hk : k < 26) (hi : i < cnt k) : off k i < 138 := by
  have h := nm_ok k hk i hi
  have h2 := (List.getElem?_eq_some_iff.mp h).1
  rw [nm_len] at h2
  exact h2
theorem nm_getD {k i : Nat} (hk : k < 26) (hi : i < cnt k) : nmL.getD (off k i) (99, 0) = (k, i) := by
  rw [List.getD_eq_getElem?_getD, nm_ok k hk i hi]
  rfl
theorem wl_at (Γ : Gm) (S : St) {k i : Nat} (hk : k < 25) (hi : i < cnt k) : (wl Γ S)[off k i]? = some (gA Γ (off k i), CL Γ S k i) := by
  have hl := off_lt (by omega : k < 26) hi
  unfold wl
  rw [List.getElem?_append_left (by rw [wm_len]; exact hl), wm_get Γ S hl, nm_getD (by omega) hi]
  simp only [adr, if_neg (nm_9 k hk i hi)]
theorem wl_marks (Γ : Gm) (S : St) : (wl Γ S)[9]? = some ((S 81 0 0).toNat, CL Γ S 25 0) := by
  unfold wl
  rw [List.getElem?_append_left (by rw [wm_len]; decide), wm_get Γ S (by decide)]
  rfl
theorem wl_full (Γ : Gm) (S : St) (h : S 87 0 0 ≠ 0) : (wl Γ S)[138]? = some ((S 86 0 0).toNat, .inl (gC Γ 0, (S 87 0 0).toNat, .inl (fun j => iI (S 85 0 j)))) := by
  unfold wl
  rw [List.getElem?_append_right (by rw [wm_len]; decide), wm_len]
  simp [fl, h]
/-- another state whose cells differ at one place only -/
theorem wl_set (Γ : Gm) {S S' : St} {n0 : Nat} {e : Nat × va_E} (hn : n0 < 138) (hf : fl Γ S' = fl Γ S)
    (h : ∀ n, n < 138 → n ≠ n0 → adr Γ S' n = adr Γ S n ∧ CL Γ S' (nmL.getD n (99, 0)).1 (nmL.getD n (99, 0)).2 = CL Γ S (nmL.getD n (99, 0)).1 (nmL.getD n (99, 0)).2)
    (he : (adr Γ S' n0, CL Γ S' (nmL.getD n0 (99, 0)).1 (nmL.getD n0 (99, 0)).2) = e) : (wl Γ S).set n0 e = wl Γ S' := by
  have hl := wm_len Γ S
  unfold wl
  rw [List.set_append_left _ _ (by omega), hf]
  congr 1
  apply List.ext_getElem?
  intro n
  by_cases h1 : n < 138
  · rw [wm_get Γ S' h1, List.getElem?_set]
    by_cases h2 : n0 = n
    · subst h2
      rw [if_pos rfl, if_pos (by rw [hl]; exact hn), ← he]
    · rw [if_neg h2, wm_get Γ S h1, (h n h1 (Ne.symm h2)).1, (h n h1 (Ne.symm h2)).2]
  · rw [List.getElem?_eq_none (by simp [hl]; omega), List.getElem?_eq_none (by rw [wm_len]; omega)]
theorem nm_in {n : Nat} (h : n < 138) : ∃ k i, k < 26 ∧ i < cnt k ∧ nmL.getD n (99, 0) = (k, i) ∧ off k i = n := by
  have e : ∀ n, n < 138 → (nmL.getD n (99, 0)).1 < 26 ∧ (nmL.getD n (99, 0)).2 < cnt (nmL.getD n (99, 0)).1 ∧ off (nmL.getD n (99, 0)).1 (nmL.getD n (99, 0)).2 = n := by decide +kernel
  obtain ⟨h1, h2, h3⟩ := e n h
  exact ⟨_, _, h1, h2, rfl, h3⟩
/-- the state where a number of a name is another: only that name's cell is another -/
theorem wl_put (Γ : Gm) {S : St} {k i f j : Nat} {z : Int} {e : va_E} (hk : k < 25) (hi : i < cnt k) (hf : fk f = k) (hf1 : f < 80) (he : CL Γ (sU S f i j z) k i = e) :
    (wl Γ S).set (off k i) (gA Γ (off k i), e) = wl Γ (sU S f i j z) := by
  refine wl_set Γ (off_lt (by omega) hi) ?_ (fun n hn hne => ?_) ?_
  · unfold fl
    rw [sU_nf (by omega), sU_nf (by omega)]
    simp only [sU_nf (show (85 : Nat) ≠ f by omega)]
  · obtain ⟨k', i', h1, h2, h3, h4⟩ := nm_in hn
    rw [h3]
    refine ⟨?_, (CL_congr Γ fun f' j' hf' => ?_).symm⟩
    · unfold adr
      rw [sU_nf (by omega)]
    · by_cases hff : f' = f
      · subst hff
        by_cases hii : i' = i
        · subst hii
          have hkk : k' = k := by rw [← hf]; exact hf'.symm
          exact absurd (show n = off k i' by rw [← h4, hkk]) hne
        · exact (sU_ni hii).symm
      · exact (sU_nf hff).symm
  · rw [nm_getD (by omega) hi, ← he]
    simp only [adr, if_neg (nm_9 k hk i hi)]

theorem cs_0 (Γ : Gm) (S : St) (i : Nat) (z : Int) : CL Γ (sU S 0 i 0 z) 0 i = .inr (11, [rf Γ 1 0, rf Γ 1 1, nt z, rf Γ 2 0, nt (S 1 i 0), rf Γ 3 3, rf Γ 6 0, rf Γ 7 0, rf Γ 8 0, rf Γ 9 0, rf Γ 12 0, rf Γ 13 0, rf Γ 14 0, nt (S 2 i 0), nt (S 3 i 0)]) := by simp [CL, sU]
theorem cs_1 (Γ : Gm) (S : St) (i : Nat) (z : Int) : CL Γ (sU S 1 i 0 z) 0 i = .inr (11, [rf Γ 1 0, rf Γ 1 1, nt (S 0 i 0), rf Γ 2 0, nt z, rf Γ 3 3, rf Γ 6 0, rf Γ 7 0, rf Γ 8 0, rf Γ 9 0, rf Γ 12 0, rf Γ 13 0, rf Γ 14 0, nt (S 2 i 0), nt (S 3 i 0)]) := by simp [CL, sU]
theorem cs_2 (Γ : Gm) (S : St) (i : Nat) (z : Int) : CL Γ (sU S 2 i 0 z) 0 i = .inr (11, [rf Γ 1 0, rf Γ 1 1, nt (S 0 i 0), rf Γ 2 0, nt (S 1 i 0), rf Γ 3 3, rf Γ 6 0, rf Γ 7 0, rf Γ 8 0, rf Γ 9 0, rf Γ 12 0, rf Γ 13 0, rf Γ 14 0, nt z, nt (S 3 i 0)]) := by simp [CL, sU]
theorem cs_3 (Γ : Gm) (S : St) (i : Nat) (z : Int) : CL Γ (sU S 3 i 0 z) 0 i = .inr (11, [rf Γ 1 0, rf Γ 1 1, nt (S 0 i 0), rf Γ 2 0, nt (S 1 i 0), rf Γ 3 3, rf Γ 6 0, rf Γ 7 0, rf Γ 8 0, rf Γ 9 0, rf Γ 12 0, rf Γ 13 0, rf Γ 14 0, nt (S 2 i 0), nt z]) := by simp [CL, sU]
theorem cs_10 (Γ : Gm) (S : St) (i : Nat) (z : Int) : CL Γ (sU S 10 i 0 z) 15 i = .inr (9, [nt z, nt (S 11 i 0), nt (S 12 i 0), rf Γ 16 i, rf Γ 17 i, rf Γ 18 i, rf Γ 19 i, nt (S 13 i 0), nt (S 14 i 0)]) := by simp [CL, sU]
theorem cs_11 (Γ : Gm) (S : St) (i : Nat) (z : Int) : CL Γ (sU S 11 i 0 z) 15 i = .inr (9, [nt (S 10 i 0), nt z, nt (S 12 i 0), rf Γ 16 i, rf Γ 17 i, rf Γ 18 i, rf Γ 19 i, nt (S 13 i 0), nt (S 14 i 0)]) := by simp [CL, sU]
theorem cs_12 (Γ : Gm) (S : St) (i : Nat) (z : Int) : CL Γ (sU S 12 i 0 z) 15 i = .inr (9, [nt (S 10 i 0), nt (S 11 i 0), nt z, rf Γ 16 i, rf Γ 17 i, rf Γ 18 i, rf Γ 19 i, nt (S 13 i 0), nt (S 14 i 0)]) := by simp [CL, sU]
theorem cs_13 (Γ : Gm) (S : St) (i : Nat) (z : Int) : CL Γ (sU S 13 i 0 z) 15 i = .inr (9, [nt (S 10 i 0), nt (S 11 i 0), nt (S 12 i 0), rf Γ 16 i, rf Γ 17 i, rf Γ 18 i, rf Γ 19 i, nt z, nt (S 14 i 0)]) := by simp [CL, sU]
theorem cs_14 (Γ : Gm) (S : St) (i : Nat) (z : Int) : CL Γ (sU S 14 i 0 z) 15 i = .inr (9, [nt (S 10 i 0), nt (S 11 i 0), nt (S 12 i 0), rf Γ 16 i, rf Γ 17 i, rf Γ 18 i, rf Γ 19 i, nt (S 13 i 0), nt z]) := by simp [CL, sU]
theorem cs_20 (Γ : Gm) (S : St) (i : Nat) (z : Int) : CL Γ (sU S 20 i 0 z) 20 i = .inr (6, [nt z, rf Γ 21 i, rf Γ 22 i, rf Γ 24 i, rf Γ 3 i, nt (S 21 i 0), nt (S 22 i 0), nt (S 23 i 0), nt (S 24 i 0)]) := by simp [CL, sU]
theorem cs_21 (Γ : Gm) (S : St) (i : Nat) (z : Int) : CL Γ (sU S 21 i 0 z) 20 i = .inr (6, [nt (S 20 i 0), rf Γ 21 i, rf Γ 22 i, rf Γ 24 i, rf Γ 3 i, nt z, nt (S 22 i 0), nt (S 23 i 0), nt (S 24 i 0)]) := by simp [CL, sU]
theorem cs_22 (Γ : Gm) (S : St) (i : Nat) (z : Int) : CL Γ (sU S 22 i 0 z) 20 i = .inr (6, [nt (S 20 i 0), rf Γ 21 i, rf Γ 22 i, rf Γ 24 i, rf Γ 3 i, nt (S 21 i 0), nt z, nt (S 23 i 0), nt (S 24 i 0)]) := by simp [CL, sU]
theorem cs_23 (Γ : Gm) (S : St) (i : Nat) (z : Int) : CL Γ (sU S 23 i 0 z) 20 i = .inr (6, [nt (S 20 i 0), rf Γ 21 i, rf Γ 22 i, rf Γ 24 i, rf Γ 3 i, nt (S 21 i 0), nt (S 22 i 0), nt z, nt (S 24 i 0)]) := by simp [CL, sU]
theorem cs_24 (Γ : Gm) (S : St) (i : Nat) (z : Int) : CL Γ (sU S 24 i 0 z) 20 i = .inr (6, [nt (S 20 i 0), rf Γ 21 i, rf Γ 22 i, rf Γ 24 i, rf Γ 3 i, nt (S 21 i 0), nt (S 22 i 0), nt (S 23 i 0), nt z]) := by simp [CL, sU]
theorem cs_30 (Γ : Gm) (S : St) (i : Nat) (z : Int) : CL Γ (sU S 30 i 0 z) 3 i = .inr (10, [rf Γ 4 i, rf Γ 5 i, nt z, nt (S 31 i 0), nt (S 32 i 0), nt (S 33 i 0)]) := by simp [CL, sU]
theorem cs_31 (Γ : Gm) (S : St) (i : Nat) (z : Int) : CL Γ (sU S 31 i 0 z) 3 i = .inr (10, [rf Γ 4 i, rf Γ 5 i, nt (S 30 i 0), nt z, nt (S 32 i 0), nt (S 33 i 0)]) := by simp [CL, sU]
theorem cs_32 (Γ : Gm) (S : St) (i : Nat) (z : Int) : CL Γ (sU S 32 i 0 z) 3 i = .inr (10, [rf Γ 4 i, rf Γ 5 i, nt (S 30 i 0), nt (S 31 i 0), nt z, nt (S 33 i 0)]) := by simp [CL, sU]
theorem cs_33 (Γ : Gm) (S : St) (i : Nat) (z : Int) : CL Γ (sU S 33 i 0 z) 3 i = .inr (10, [rf Γ 4 i, rf Γ 5 i, nt (S 30 i 0), nt (S 31 i 0), nt (S 32 i 0), nt z]) := by simp [CL, sU]
theorem cs_40 (Γ : Gm) (S : St) (i : Nat) (z : Int) : CL Γ (sU S 40 i 0 z) 6 i = .inr (8, [nt z, nt (S 41 i 0), nt (S 42 i 0)]) := by simp [CL, sU]
theorem cs_41 (Γ : Gm) (S : St) (i : Nat) (z : Int) : CL Γ (sU S 41 i 0 z) 6 i = .inr (8, [nt (S 40 i 0), nt z, nt (S 42 i 0)]) := by simp [CL, sU]
theorem cs_42 (Γ : Gm) (S : St) (i : Nat) (z : Int) : CL Γ (sU S 42 i 0 z) 6 i = .inr (8, [nt (S 40 i 0), nt (S 41 i 0), nt z]) := by simp [CL, sU]
theorem cs_45 (Γ : Gm) (S : St) (i : Nat) (z : Int) : CL Γ (sU S 45 i 0 z) 8 i = .inr (5, [nt z, nt (S 46 i 0), nt (S 47 i 0)]) := by simp [CL, sU]
theorem cs_46 (Γ : Gm) (S : St) (i : Nat) (z : Int) : CL Γ (sU S 46 i 0 z) 8 i = .inr (5, [nt (S 45 i 0), nt z, nt (S 47 i 0)]) := by simp [CL, sU]
theorem cs_47 (Γ : Gm) (S : St) (i : Nat) (z : Int) : CL Γ (sU S 47 i 0 z) 8 i = .inr (5, [nt (S 45 i 0), nt (S 46 i 0), nt z]) := by simp [CL, sU]
theorem cs_50 (Γ : Gm) (S : St) (i : Nat) (z : Int) : CL Γ (sU S 50 i 0 z) 9 i = .inr (1, [nt z, nt (S 51 i 0), rf Γ 10 0, nt (S 52 i 0)]) := by simp [CL, sU]
theorem cs_51 (Γ : Gm) (S : St) (i : Nat) (z : Int) : CL Γ (sU S 51 i 0 z) 9 i = .inr (1, [nt (S 50 i 0), nt z, rf Γ 10 0, nt (S 52 i 0)]) := by simp [CL, sU]
theorem cs_52 (Γ : Gm) (S : St) (i : Nat) (z : Int) : CL Γ (sU S 52 i 0 z) 9 i = .inr (1, [nt (S 50 i 0), nt (S 51 i 0), rf Γ 10 0, nt z]) := by simp [CL, sU]
theorem cs_55 (Γ : Gm) (S : St) (i : Nat) (z : Int) : CL Γ (sU S 55 i 0 z) 11 i = .inr (0, [nt z, nt (S 56 i 0), nt (S 57 i 0), nt (S 58 i 0)]) := by simp [CL, sU]
theorem cs_56 (Γ : Gm) (S : St) (i : Nat) (z : Int) : CL Γ (sU S 56 i 0 z) 11 i = .inr (0, [nt (S 55 i 0), nt z, nt (S 57 i 0), nt (S 58 i 0)]) := by simp [CL, sU]
theorem cs_57 (Γ : Gm) (S : St) (i : Nat) (z : Int) : CL Γ (sU S 57 i 0 z) 11 i = .inr (0, [nt (S 55 i 0), nt (S 56 i 0), nt z, nt (S 58 i 0)]) := by simp [CL, sU]
theorem cs_58 (Γ : Gm) (S : St) (i : Nat) (z : Int) : CL Γ (sU S 58 i 0 z) 11 i = .inr (0, [nt (S 55 i 0), nt (S 56 i 0), nt (S 57 i 0), nt z]) := by simp [CL, sU]
theorem cs_60 (Γ : Gm) (S : St) (i : Nat) (z : Int) : CL Γ (sU S 60 i 0 z) 12 i = .inr (3, [nt z, nt (S 61 i 0), nt (S 62 i 0), nt (S 63 i 0), nt (S 64 i 0)]) := by simp [CL, sU]
theorem cs_61 (Γ : Gm) (S : St) (i : Nat) (z : Int) : CL Γ (sU S 61 i 0 z) 12 i = .inr (3, [nt (S 60 i 0), nt z, nt (S 62 i 0), nt (S 63 i 0), nt (S 64 i 0)]) := by simp [CL, sU]
theorem cs_62 (Γ : Gm) (S : St) (i : Nat) (z : Int) : CL Γ (sU S 62 i 0 z) 12 i = .inr (3, [nt (S 60 i 0), nt (S 61 i 0), nt z, nt (S 63 i 0), nt (S 64 i 0)]) := by simp [CL, sU]
theorem cs_63 (Γ : Gm) (S : St) (i : Nat) (z : Int) : CL Γ (sU S 63 i 0 z) 12 i = .inr (3, [nt (S 60 i 0), nt (S 61 i 0), nt (S 62 i 0), nt z, nt (S 64 i 0)]) := by simp [CL, sU]
theorem cs_64 (Γ : Gm) (S : St) (i : Nat) (z : Int) : CL Γ (sU S 64 i 0 z) 12 i = .inr (3, [nt (S 60 i 0), nt (S 61 i 0), nt (S 62 i 0), nt (S 63 i 0), nt z]) := by simp [CL, sU]
theorem cs_65 (Γ : Gm) (S : St) (i : Nat) (z : Int) : CL Γ (sU S 65 i 0 z) 13 i = .inr (4, [nt z, nt (S 66 i 0), nt (S 67 i 0), nt (S 68 i 0), nt (S 69 i 0)]) := by simp [CL, sU]
theorem cs_66 (Γ : Gm) (S : St) (i : Nat) (z : Int) : CL Γ (sU S 66 i 0 z) 13 i = .inr (4, [nt (S 65 i 0), nt z, nt (S 67 i 0), nt (S 68 i 0), nt (S 69 i 0)]) := by simp [CL, sU]
theorem cs_67 (Γ : Gm) (S : St) (i : Nat) (z : Int) : CL Γ (sU S 67 i 0 z) 13 i = .inr (4, [nt (S 65 i 0), nt (S 66 i 0), nt z, nt (S 68 i 0), nt (S 69 i 0)]) := by simp [CL, sU]
theorem cs_68 (Γ : Gm) (S : St) (i : Nat) (z : Int) : CL Γ (sU S 68 i 0 z) 13 i = .inr (4, [nt (S 65 i 0), nt (S 66 i 0), nt (S 67 i 0), nt z, nt (S 69 i 0)]) := by simp [CL, sU]
theorem cs_69 (Γ : Gm) (S : St) (i : Nat) (z : Int) : CL Γ (sU S 69 i 0 z) 13 i = .inr (4, [nt (S 65 i 0), nt (S 66 i 0), nt (S 67 i 0), nt (S 68 i 0), nt z]) := by simp [CL, sU]
theorem cs_70 (Γ : Gm) (S : St) (i : Nat) (z : Int) : CL Γ (sU S 70 i 0 z) 14 i = .inr (7, [nt z, nt (S 71 i 0), nt (S 72 i 0), nt (S 73 i 0)]) := by simp [CL, sU]
theorem cs_71 (Γ : Gm) (S : St) (i : Nat) (z : Int) : CL Γ (sU S 71 i 0 z) 14 i = .inr (7, [nt (S 70 i 0), nt z, nt (S 72 i 0), nt (S 73 i 0)]) := by simp [CL, sU]
theorem cs_72 (Γ : Gm) (S : St) (i : Nat) (z : Int) : CL Γ (sU S 72 i 0 z) 14 i = .inr (7, [nt (S 70 i 0), nt (S 71 i 0), nt z, nt (S 73 i 0)]) := by simp [CL, sU]
theorem cs_73 (Γ : Gm) (S : St) (i : Nat) (z : Int) : CL Γ (sU S 73 i 0 z) 14 i = .inr (7, [nt (S 70 i 0), nt (S 71 i 0), nt (S 72 i 0), nt z]) := by simp [CL, sU]
theorem cs_34 (Γ : Gm) (S : St) (i j : Nat) (z : Int) : CL Γ (sU S 34 i j z) 4 i = .inl (gC Γ 0, 2, .inl (upd (fun q => iI (S 34 i q)) j (iI z))) := by
  show (Sum.inl (gC Γ 0, 2, Sum.inl (fun q => iI (sU S 34 i j z 34 i q))) : va_E) = _
  have e : (fun q => iI (sU S 34 i j z 34 i q)) = upd (fun q => iI (S 34 i q)) j (iI z) := by
    funext q; by_cases h : q = j
    · subst h; simp [sU, upd]
    · simp [sU, upd, h]
  rw [e]
theorem cs_35 (Γ : Gm) (S : St) (i j : Nat) (z : Int) : CL Γ (sU S 35 i j z) 5 i = .inl (gC Γ 0, 2, .inl (upd (fun q => iI (S 35 i q)) j (iI z))) := by
  show (Sum.inl (gC Γ 0, 2, Sum.inl (fun q => iI (sU S 35 i j z 35 i q))) : va_E) = _
  have e : (fun q => iI (sU S 35 i j z 35 i q)) = upd (fun q => iI (S 35 i q)) j (iI z) := by
    funext q; by_cases h : q = j
    · subst h; simp [sU, upd]
    · simp [sU, upd, h]
  rw [e]
theorem cs_15 (Γ : Gm) (S : St) (i j : Nat) (z : Int) : CL Γ (sU S 15 i j z) 16 i = .inl (gC Γ 0, 3, .inl (upd (fun q => iI (S 15 i q)) j (iI z))) := by
  show (Sum.inl (gC Γ 0, 3, Sum.inl (fun q => iI (sU S 15 i j z 15 i q))) : va_E) = _
  have e : (fun q => iI (sU S 15 i j z 15 i q)) = upd (fun q => iI (S 15 i q)) j (iI z) := by
    funext q; by_cases h : q = j
    · subst h; simp [sU, upd]
    · simp [sU, upd, h]
  rw [e]
theorem cs_16 (Γ : Gm) (S : St) (i j : Nat) (z : Int) : CL Γ (sU S 16 i j z) 17 i = .inl (gC Γ 0, 3, .inl (upd (fun q => iI (S 16 i q)) j (iI z))) := by
  show (Sum.inl (gC Γ 0, 3, Sum.inl (fun q => iI (sU S 16 i j z 16 i q))) : va_E) = _
  have e : (fun q => iI (sU S 16 i j z 16 i q)) = upd (fun q => iI (S 16 i q)) j (iI z) := by
    funext q; by_cases h : q = j
    · subst h; simp [sU, upd]
    · simp [sU, upd, h]
  rw [e]
theorem cs_17 (Γ : Gm) (S : St) (i j : Nat) (z : Int) : CL Γ (sU S 17 i j z) 18 i = .inl (gC Γ 0, 3, .inl (upd (fun q => iI (S 17 i q)) j (iI z))) := by
  show (Sum.inl (gC Γ 0, 3, Sum.inl (fun q => iI (sU S 17 i j z 17 i q))) : va_E) = _
  have e : (fun q => iI (sU S 17 i j z 17 i q)) = upd (fun q => iI (S 17 i q)) j (iI z) := by
    funext q; by_cases h : q = j
    · subst h; simp [sU, upd]
    · simp [sU, upd, h]
  rw [e]
theorem cs_18 (Γ : Gm) (S : St) (i j : Nat) (z : Int) : CL Γ (sU S 18 i j z) 19 i = .inl (gC Γ 0, 3, .inl (upd (fun q => iI (S 18 i q)) j (iI z))) := by
  show (Sum.inl (gC Γ 0, 3, Sum.inl (fun q => iI (sU S 18 i j z 18 i q))) : va_E) = _
  have e : (fun q => iI (sU S 18 i j z 18 i q)) = upd (fun q => iI (S 18 i q)) j (iI z) := by
    funext q; by_cases h : q = j
    · subst h; simp [sU, upd]
    · simp [sU, upd, h]
  rw [e]
theorem cs_25 (Γ : Gm) (S : St) (i j : Nat) (z : Int) : CL Γ (sU S 25 i j z) 21 i = .inl (gC Γ 0, 2, .inl (upd (fun q => iI (S 25 i q)) j (iI z))) := by
  show (Sum.inl (gC Γ 0, 2, Sum.inl (fun q => iI (sU S 25 i j z 25 i q))) : va_E) = _
  have e : (fun q => iI (sU S 25 i j z 25 i q)) = upd (fun q => iI (S 25 i q)) j (iI z) := by
    funext q; by_cases h : q = j
    · subst h; simp [sU, upd]
    · simp [sU, upd, h]
  rw [e]
theorem cs_27 (Γ : Gm) (S : St) (i j : Nat) (z : Int) : CL Γ (sU S 27 i j z) 23 i = .inl (gC Γ 0, 6, .inl (upd (fun q => iI (S 27 i q)) j (iI z))) := by
  show (Sum.inl (gC Γ 0, 6, Sum.inl (fun q => iI (sU S 27 i j z 27 i q))) : va_E) = _
  have e : (fun q => iI (sU S 27 i j z 27 i q)) = upd (fun q => iI (S 27 i q)) j (iI z) := by
    funext q; by_cases h : q = j
    · subst h; simp [sU, upd]
    · simp [sU, upd, h]
  rw [e]
theorem cs_26 (Γ : Gm) (S : St) (i j : Nat) (z : Int) : CL Γ (sU S 26 i j z) 24 i = .inl (gC Γ 0, 7, .inl (upd (fun q => iI (S 26 i q)) j (iI z))) := by
  show (Sum.inl (gC Γ 0, 7, Sum.inl (fun q => iI (sU S 26 i j z 26 i q))) : va_E) = _
  have e : (fun q => iI (sU S 26 i j z 26 i q)) = upd (fun q => iI (S 26 i q)) j (iI z) := by
    funext q; by_cases h : q = j
    · subst h; simp [sU, upd]
    · simp [sU, upd, h]
  rw [e]
end
section
/-! THE ROWS: an instruction a row, over a world of names. G pc locals stack state: the walk may go on there -/
theorem iI_add (a b : Int) : iI (a + b) = iI a + iI b := by unfold iI; exact Int32.ofInt_add ..
theorem iI_sub (a b : Int) : iI (a - b) = iI a - iI b := by unfold iI; exact Int32.ofInt_sub ..
theorem iI_mul (a b : Int) : iI (a * b) = iI a * iI b := by unfold iI; exact Int32.ofInt_mul ..
theorem iI_neg (a : Int) : iI (-a) = -iI a := by unfold iI; exact Int32.ofInt_neg ..
theorem iI_toInt {a : Int} (h : -2147483648 ≤ a ∧ a < 2147483648) : (iI a).toInt = a := by
  unfold iI
  exact Int32.toInt_ofInt_of_le (by omega) (by omega)
theorem iI_of (x : Int32) : iI x.toInt = x := by unfold iI; exact Int32.ofInt_toInt x
theorem iI_eq {a b : Int} (ha : -2147483648 ≤ a ∧ a < 2147483648) (hb : -2147483648 ≤ b ∧ b < 2147483648) : iI a = iI b ↔ a = b := by
  rw [← Int32.toInt_inj, iI_toInt ha, iI_toInt hb]
theorem iI_le {a b : Int} (ha : -2147483648 ≤ a ∧ a < 2147483648) (hb : -2147483648 ≤ b ∧ b < 2147483648) : iI a ≤ iI b ↔ a ≤ b := by
  rw [Int32.le_iff_toInt_le, iI_toInt ha, iI_toInt hb]
theorem iI_lt {a b : Int} (ha : -2147483648 ≤ a ∧ a < 2147483648) (hb : -2147483648 ≤ b ∧ b < 2147483648) : iI a < iI b ↔ a < b := by
  rw [Int32.lt_iff_toInt_lt, iI_toInt ha, iI_toInt hb]
theorem iI_nI {a : Int} (h : 0 ≤ a) : iI a = nI a.toNat := by
  unfold iI nI
  rw [← Int32.ofInt_eq_ofNat, Int.toNat_of_nonneg h]
theorem iI_ne0 {b : Int} (h : 0 < b ∧ b < 2147483648) : ¬ iI b = 0 := fun q => by
  have := (iI_eq (a := b) (b := 0) (by omega) (by omega)).mp q
  omega
theorem iI_div {a b : Int} (ha : 0 ≤ a ∧ a < 2147483648) (hb : 0 < b ∧ b < 2147483648) : iI a / iI b = iI (a / b) := by
  rw [iI_nI ha.1, iI_nI (show 0 ≤ b by omega), pk_div (by omega) (by omega) (by omega), iI_nI (Int.ediv_nonneg ha.1 (by omega))]
  have h1 : ((a.toNat / b.toNat : Nat) : Int) = a / b := by rw [Int.natCast_ediv, Int.toNat_of_nonneg ha.1, Int.toNat_of_nonneg (by omega)]
  rw [← h1, Int.toNat_natCast]
theorem iI_rem {a b : Int} (ha : 0 ≤ a ∧ a < 2147483648) (hb : 0 < b ∧ b < 2147483648) : iI a - iI a / iI b * iI b = iI (a % b) := by
  rw [iI_div ha hb, ← iI_mul, ← iI_sub]
  congr 1
  have := Int.mul_ediv_add_emod a b
  rw [Int.mul_comm] at this
  omega
def lk (ls : List (Nat × Value)) (i : Nat) : Option Value := match ls with
  | [] => none
  | q :: l => bif Nat.beq q.1 i then some q.2 else lk l i
theorem lk_mem {ls : List (Nat × Value)} {i : Nat} {v : Value} (h : lk ls i = some v) : (i, v) ∈ ls := by
  induction ls with
  | nil => cases h
  | cons q l ih =>
    unfold lk at h
    cases hq : Nat.beq q.1 i with
    | true =>
      rw [hq] at h
      have e1 : q.1 = i := Nat.eq_of_beq_eq_true hq
      have e2 : q.2 = v := Option.some.inj h
      rw [← e1, ← e2]
      exact List.mem_cons_self
    | false =>
      rw [hq] at h
      exact List.mem_cons_of_mem _ (ih h)
def fK (p : Nat × Value → Bool) (l : List (Nat × Value)) (k : List (Nat × Value) → Prop) : Prop := match l with
  | [] => k []
  | q :: l => match p q with
    | true => fK p l (fun l' => k (q :: l'))
    | false => fK p l k
theorem fK_out {p : Nat × Value → Bool} {l : List (Nat × Value)} : ∀ {k : List (Nat × Value) → Prop}, fK p l k → k (l.filter p) := by
  induction l with
  | nil => exact fun h => h
  | cons q l ih =>
    intro k h
    unfold fK at h
    cases hq : p q with
    | true =>
      rw [hq] at h
      rw [List.filter_cons_of_pos hq]
      exact ih h
    | false =>
      rw [hq] at h
      rw [List.filter_cons_of_neg (by rw [hq]; decide)]
      exact ih h
def kp1 (i : Nat) (q : Nat × Value) : Bool := bif Nat.beq q.1 i then false else bif Nat.beq (q.1 + 1) i then Nat.beq q.2.category 1 else true
def kp2 (i : Nat) (q : Nat × Value) : Bool := bif Nat.beq q.1 i then false else bif Nat.beq q.1 (i + 1) then false else bif Nat.beq (q.1 + 1) i then Nat.beq q.2.category 1 else true
theorem kp_cat {v : Value} (h : Nat.beq v.category 1 = true) : ¬ v.category = 2 := by
  have := Nat.eq_of_beq_eq_true h
  omega
theorem beq_f {a b : Nat} (h : Nat.beq a b = false) : ¬ a = b := fun e => by
  subst e
  rw [Nat.beq_refl] at h
  cases h
theorem kp1_sub {i : Nat} {v : Value} (l : List (Nat × Value)) : ∀ q, q ∈ (i, v) :: l.filter (kp1 i) → q ∈ (i, v) :: l.filter (fun q => !(q.1 == i) && !(q.1 + 1 == i && q.2.category == 2)) := by
  intro q hq
  rcases List.mem_cons.mp hq with h | h
  · rw [h]; exact List.mem_cons_self
  · obtain ⟨h1, h2⟩ := List.mem_filter.mp h
    refine List.mem_cons_of_mem _ (List.mem_filter.mpr ⟨h1, ?_⟩)
    unfold kp1 at h2
    cases e1 : Nat.beq q.1 i with
    | true => rw [e1] at h2; cases h2
    | false =>
      rw [e1] at h2
      have n1 := beq_f e1
      cases e2 : Nat.beq (q.1 + 1) i with
      | true =>
        rw [e2] at h2
        have n2 := kp_cat h2
        simp [n1, n2]
      | false =>
        have n2 := beq_f e2
        simp [n1, n2]
theorem kp2_sub {i : Nat} {v : Value} (l : List (Nat × Value)) : ∀ q, q ∈ (i, v) :: l.filter (kp2 i) → q ∈ (i, v) :: l.filter (fun q => !(q.1 == i) && (!(q.1 == i + 1) && !(q.1 + 1 == i && q.2.category == 2))) := by
  intro q hq
  rcases List.mem_cons.mp hq with h | h
  · rw [h]; exact List.mem_cons_self
  · obtain ⟨h1, h2⟩ := List.mem_filter.mp h
    refine List.mem_cons_of_mem _ (List.mem_filter.mpr ⟨h1, ?_⟩)
    unfold kp2 at h2
    cases e1 : Nat.beq q.1 i with
    | true => rw [e1] at h2; cases h2
    | false =>
      rw [e1] at h2
      have n1 := beq_f e1
      cases e3 : Nat.beq q.1 (i + 1) with
      | true => rw [e3] at h2; cases h2
      | false =>
        rw [e3] at h2
        have n3 := beq_f e3
        cases e2 : Nat.beq (q.1 + 1) i with
        | true =>
          rw [e2] at h2
          have n2 := kp_cat h2
          simp [n1, n2, n3]
        | false =>
          have n2 := beq_f e2
          simp [n1, n2, n3]
theorem lv_mono {la : Array Slot} {nL : Nat} {l l' : List (Nat × Value)} (h : lv_has la nL l) (hs : ∀ q, q ∈ l' → q ∈ l) : lv_has la nL l' := ⟨h.1, h.2.1, fun q hq => h.2.2 q (hs q hq)⟩
def isRet (ret : Option FieldType) (i : Instr) (v : Option Value) : Prop :=
  (ret = some .int ∧ i = .ireturn ∧ ∃ x : Int32, v = some (.int x)) ∨ (ret = some .boolean ∧ i = .ireturn ∧ ∃ x : Int32, v = some (.int x) ∧ narrow .boolean (.int x) = .int x) ∨
  (ret = some .long ∧ i = .lreturn ∧ ∃ x : Int64, v = some (.long x)) ∨ (ret = some .double ∧ i = .dreturn ∧ ∃ x : UInt64, v = some (.double x)) ∨
  ((∃ rt : FieldType, ret = some rt ∧ ((∃ n, rt = .object n) ∨ ∃ t, rt = .array t)) ∧ i = .areturn ∧ ∃ a : Nat, v = some (.ref a)) ∨ (ret = none ∧ i = .return_ ∧ v = none)
abbrev tys (Γ : Gm) : List (ClassId × FieldType) := [(gC Γ 0, .int), (gC Γ 1, .object "BinWard$Street"), (gC Γ 2, .object "BinWard$Lorry"), (gC Γ 3, .object "BinWard$Bale"), (gC Γ 4, .array .int)]
/-- a link between nest mates, which a callee needs said of its own start -/
def NW (U : State) : Prop := va_Nw (.methodLinkNest "BinWard$Heap" 19 y_Ward_roundedUp "BinWard") U
/-- the world at a machine's state -/
def WD (Γ : Gm) (S : St) (U : State) : Prop := va_K (gD Γ) classes (tys Γ) U ∧ va_P (gD Γ) classes (wl Γ S) U.heap ∧ va_D (gF Γ) (wl Γ S) ∧ gB Γ ≤ U.heap.size ∧ va_X (gX Γ).1 (gX Γ).2.1 (gX Γ).2.2 U U.heap ∧ (gX Γ).1 < gB Γ ∧ NW U
/-- G is the walk of a method of code cc with nL locals, of class own, in a room R; at its end post holds -/
def IsG (Γ : Gm) (R : Room) (cc : ByteArray) (nL : Nat) (own : String) (ret : Option FieldType) (post : Option Value → St → Prop) (mc ms : Nat) (G : Nat × Nat → Nat → List (Nat × Value) → List Value → St → Prop) : Prop :=
  ∃ (p : Program) (e : Env) (s : State) (m : MethodId) (args : Array Value) (below : List Frame) (meth : Method) (c : Code) (Q : State → Prop),
    p.tables.exec = Jvm.exec ∧ c.code = cc ∧ c.maxLocals = nL ∧ s.vm.findClass own = some m.cls ∧ (∀ w ∈ tg, w.before args s = true) ∧ va_K (gD Γ) classes (tys Γ) s ∧ gB Γ ≤ s.heap.size ∧
    ((va_X (gX Γ).1 (gX Γ).2.1 (gX Γ).2.2 s s.heap ∧ (gX Γ).1 < gB Γ) ∧ NW s) ∧
    (∀ (k n pc : Nat) (i : Instr) (v : Option Value) (S : St) (H : Heap) (locs : List Loc) (la : Array Slot), va_P (gD Γ) classes (wl Γ S) H → va_D (gF Γ) (wl Γ S) → va_S (gF Γ) s.heap H locs → k ≤ mc → n ≤ ms → decode cc pc = .ok (i, 1) → isRet ret i v → post v S →
      W p (gL Γ) e R s m args below meth c H locs k n Q (F0 m pc la v.toList)) ∧
    G = fun cs pc ls st S => ∀ (H : Heap) (locs : List Loc) (la : Array Slot), va_P (gD Γ) classes (wl Γ S) H → va_D (gF Γ) (wl Γ S) → va_S (gF Γ) s.heap H locs → lv_has la nL ls → W p (gL Γ) e R s m args below meth c H locs cs.1 cs.2 Q (F0 m pc la st)
section RW
variable {Γ : Gm} {R : Room} {cc : ByteArray} {nL : Nat} {own : String} {ret : Option FieldType} {post : Option Value → St → Prop} {mc ms : Nat} {G : Nat × Nat → Nat → List (Nat × Value) → List Value → St → Prop} {cs : Nat × Nat} {pc n : Nat} {ls : List (Nat × Value)} {st : List Value} {S : St}

theorem r_iconst (hG : IsG Γ R cc nL own ret post mc ms G) {k : Int} (hd : Dc cc pc (.iconst k) 1 n) (K : G cs n ls (nt k :: st) S) : G cs pc ls (st) S := by
  obtain ⟨p, e, s, m, args, below, meth, c, Q, hx, hb, hml, hown, hts, hK, hB, hX, hr, rfl⟩ := hG
  obtain ⟨hd, rfl⟩ := hd
  intro H locs la hP hD hS hl
  have K := K H locs la hP hD hS hl
  exact lv_iconst (v := iI k) hx hb hd rfl K
theorem r_bipush (hG : IsG Γ R cc nL own ret post mc ms G) {k : Int} (hv : (Int8.ofInt k).toInt32 = iI k := by decide) (hd : Dc cc pc (.bipush k) 2 n) (K : G cs n ls (nt k :: st) S) : G cs pc ls (st) S := by
  obtain ⟨p, e, s, m, args, below, meth, c, Q, hx, hb, hml, hown, hts, hK, hB, hX, hr, rfl⟩ := hG
  obtain ⟨hd, rfl⟩ := hd
  intro H locs la hP hD hS hl
  have K := K H locs la hP hD hS hl
  exact lv_bipush hx hb hd hv K
theorem r_sipush (hG : IsG Γ R cc nL own ret post mc ms G) {k : Int} (hv : (Int16.ofInt k).toInt32 = iI k := by decide) (hd : Dc cc pc (.sipush k) 3 n) (K : G cs n ls (nt k :: st) S) : G cs pc ls (st) S := by
  obtain ⟨p, e, s, m, args, below, meth, c, Q, hx, hb, hml, hown, hts, hK, hB, hX, hr, rfl⟩ := hG
  obtain ⟨hd, rfl⟩ := hd
  intro H locs la hP hD hS hl
  have K := K H locs la hP hD hS hl
  exact lv_sipush hx hb hd hv K
theorem r_ldc (hG : IsG Γ R cc nL own ret post mc ms G) {i : Nat} {v : Int32} {k : Int} (hc : Cond.constant own i v ∈ tg) (hv : v = iI k) (hd : Dc cc pc (.ldc i) 2 n) (K : G cs n ls (nt k :: st) S) : G cs pc ls (st) S := by
  obtain ⟨p, e, s, m, args, below, meth, c, Q, hx, hb, hml, hown, hts, hK, hB, hX, hr, rfl⟩ := hG
  obtain ⟨hd, rfl⟩ := hd
  intro H locs la hP hD hS hl
  have K := K H locs la hP hD hS hl
  subst hv
  exact lv_ldc hx hb hown (hts _ hc) hd K
theorem r_ldcw (hG : IsG Γ R cc nL own ret post mc ms G) {i : Nat} {v : Int32} {k : Int} (hc : Cond.constant own i v ∈ tg) (hv : v = iI k) (hd : Dc cc pc (.ldc_w i) 3 n) (K : G cs n ls (nt k :: st) S) : G cs pc ls (st) S := by
  obtain ⟨p, e, s, m, args, below, meth, c, Q, hx, hb, hml, hown, hts, hK, hB, hX, hr, rfl⟩ := hG
  obtain ⟨hd, rfl⟩ := hd
  intro H locs la hP hD hS hl
  have K := K H locs la hP hD hS hl
  subst hv
  exact lv_ldcw hx hb hown (hts _ hc) hd K
theorem r_ldc2 (hG : IsG Γ R cc nL own ret post mc ms G) {i : Nat} {v : Int64} (hc : Cond.constantLong own i v ∈ tg) (hd : Dc cc pc (.ldc2_w i) 3 n) (K : G cs n ls (.long v :: st) S) : G cs pc ls (st) S := by
  obtain ⟨p, e, s, m, args, below, meth, c, Q, hx, hb, hml, hown, hts, hK, hB, hX, hr, rfl⟩ := hG
  obtain ⟨hd, rfl⟩ := hd
  intro H locs la hP hD hS hl
  have K := K H locs la hP hD hS hl
  exact lv_ldc2 hx hb hown (hts _ hc) hd K
theorem r_ldc2d (hG : IsG Γ R cc nL own ret post mc ms G) {i : Nat} {v : UInt64} (hc : Cond.constantDouble own i v ∈ tg) (hd : Dc cc pc (.ldc2_w i) 3 n) (K : G cs n ls (.double v :: st) S) : G cs pc ls (st) S := by
  obtain ⟨p, e, s, m, args, below, meth, c, Q, hx, hb, hml, hown, hts, hK, hB, hX, hr, rfl⟩ := hG
  obtain ⟨hd, rfl⟩ := hd
  intro H locs la hP hD hS hl
  have K := K H locs la hP hD hS hl
  exact lv_ldc2d hx hb hown (hts _ hc) hd K
theorem r_iload_n (hG : IsG Γ R cc nL own ret post mc ms G) {k : Fin 4} {v : Value} (hl0 : lk ls k.val = some v) (hv : ∃ x, v = .int x := by exact ⟨_, rfl⟩) (hd : Dc cc pc (.iload_n k) 1 n) (K : G cs n ls (v :: st) S) : G cs pc ls (st) S := by
  obtain ⟨p, e, s, m, args, below, meth, c, Q, hx, hb, hml, hown, hts, hK, hB, hX, hr, rfl⟩ := hG
  obtain ⟨hd, rfl⟩ := hd
  intro H locs la hP hD hS hl
  have K := K H locs la hP hD hS hl
  obtain ⟨x, rfl⟩ := hv
  exact lv_iload_n hx hb hd rfl (hl.2.2 _ (lk_mem hl0)) K
theorem r_iload (hG : IsG Γ R cc nL own ret post mc ms G) {k : Nat} {v : Value} (hl0 : lk ls k = some v) (hv : ∃ x, v = .int x := by exact ⟨_, rfl⟩) (hd : Dc cc pc (.iload k) 2 n) (K : G cs n ls (v :: st) S) : G cs pc ls (st) S := by
  obtain ⟨p, e, s, m, args, below, meth, c, Q, hx, hb, hml, hown, hts, hK, hB, hX, hr, rfl⟩ := hG
  obtain ⟨hd, rfl⟩ := hd
  intro H locs la hP hD hS hl
  have K := K H locs la hP hD hS hl
  obtain ⟨x, rfl⟩ := hv
  exact lv_iload hx hb hd (hl.2.2 _ (lk_mem hl0)) K
theorem r_aload_n (hG : IsG Γ R cc nL own ret post mc ms G) {k : Fin 4} {v : Value} (hl0 : lk ls k.val = some v) (hv : ∃ x, v = .ref x := by exact ⟨_, rfl⟩) (hd : Dc cc pc (.aload_n k) 1 n) (K : G cs n ls (v :: st) S) : G cs pc ls (st) S := by
  obtain ⟨p, e, s, m, args, below, meth, c, Q, hx, hb, hml, hown, hts, hK, hB, hX, hr, rfl⟩ := hG
  obtain ⟨hd, rfl⟩ := hd
  intro H locs la hP hD hS hl
  have K := K H locs la hP hD hS hl
  obtain ⟨x, rfl⟩ := hv
  exact lv_aload_n hx hb hd rfl (hl.2.2 _ (lk_mem hl0)) K
theorem r_aload (hG : IsG Γ R cc nL own ret post mc ms G) {k : Nat} {v : Value} (hl0 : lk ls k = some v) (hv : ∃ x, v = .ref x := by exact ⟨_, rfl⟩) (hd : Dc cc pc (.aload k) 2 n) (K : G cs n ls (v :: st) S) : G cs pc ls (st) S := by
  obtain ⟨p, e, s, m, args, below, meth, c, Q, hx, hb, hml, hown, hts, hK, hB, hX, hr, rfl⟩ := hG
  obtain ⟨hd, rfl⟩ := hd
  intro H locs la hP hD hS hl
  have K := K H locs la hP hD hS hl
  obtain ⟨x, rfl⟩ := hv
  exact lv_aload hx hb hd (hl.2.2 _ (lk_mem hl0)) K
theorem r_lload_n (hG : IsG Γ R cc nL own ret post mc ms G) {k : Fin 4} {x : Int64} (hl0 : lk ls k.val = some (.long x)) (hd : Dc cc pc (.lload_n k) 1 n) (K : G cs n ls (.long x :: st) S) : G cs pc ls (st) S := by
  obtain ⟨p, e, s, m, args, below, meth, c, Q, hx, hb, hml, hown, hts, hK, hB, hX, hr, rfl⟩ := hG
  obtain ⟨hd, rfl⟩ := hd
  intro H locs la hP hD hS hl
  have K := K H locs la hP hD hS hl
  exact lv_lload_n hx hb hd rfl (hl.2.2 _ (lk_mem hl0)) K
theorem r_lload (hG : IsG Γ R cc nL own ret post mc ms G) {k : Nat} {x : Int64} (hl0 : lk ls k = some (.long x)) (hd : Dc cc pc (.lload k) 2 n) (K : G cs n ls (.long x :: st) S) : G cs pc ls (st) S := by
  obtain ⟨p, e, s, m, args, below, meth, c, Q, hx, hb, hml, hown, hts, hK, hB, hX, hr, rfl⟩ := hG
  obtain ⟨hd, rfl⟩ := hd
  intro H locs la hP hD hS hl
  have K := K H locs la hP hD hS hl
  exact lv_lload hx hb hd (hl.2.2 _ (lk_mem hl0)) K
theorem r_iadd (hG : IsG Γ R cc nL own ret post mc ms G) {a b : Int} (hd : Dc cc pc .iadd 1 n) (K : G cs n ls (nt (a + b) :: st) S) : G cs pc ls (nt b :: nt a :: st) S := by
  obtain ⟨p, e, s, m, args, below, meth, c, Q, hx, hb, hml, hown, hts, hK, hB, hX, hr, rfl⟩ := hG
  obtain ⟨hd, rfl⟩ := hd
  intro H locs la hP hD hS hl
  have K := K H locs la hP hD hS hl
  refine lv_iadd hx hb hd ?_
  rw [← iI_add]
  exact K
theorem r_isub (hG : IsG Γ R cc nL own ret post mc ms G) {a b : Int} (hd : Dc cc pc .isub 1 n) (K : G cs n ls (nt (a - b) :: st) S) : G cs pc ls (nt b :: nt a :: st) S := by
  obtain ⟨p, e, s, m, args, below, meth, c, Q, hx, hb, hml, hown, hts, hK, hB, hX, hr, rfl⟩ := hG
  obtain ⟨hd, rfl⟩ := hd
  intro H locs la hP hD hS hl
  have K := K H locs la hP hD hS hl
  refine lv_isub hx hb hd ?_
  rw [← iI_sub]
  exact K
theorem r_imul (hG : IsG Γ R cc nL own ret post mc ms G) {a b : Int} (hd : Dc cc pc .imul 1 n) (K : G cs n ls (nt (a * b) :: st) S) : G cs pc ls (nt b :: nt a :: st) S := by
  obtain ⟨p, e, s, m, args, below, meth, c, Q, hx, hb, hml, hown, hts, hK, hB, hX, hr, rfl⟩ := hG
  obtain ⟨hd, rfl⟩ := hd
  intro H locs la hP hD hS hl
  have K := K H locs la hP hD hS hl
  refine lv_imul hx hb hd ?_
  rw [← iI_mul]
  exact K
theorem r_ineg (hG : IsG Γ R cc nL own ret post mc ms G) {a : Int} (hd : Dc cc pc .ineg 1 n) (K : G cs n ls (nt (-a) :: st) S) : G cs pc ls (nt a :: st) S := by
  obtain ⟨p, e, s, m, args, below, meth, c, Q, hx, hb, hml, hown, hts, hK, hB, hX, hr, rfl⟩ := hG
  obtain ⟨hd, rfl⟩ := hd
  intro H locs la hP hD hS hl
  have K := K H locs la hP hD hS hl
  refine lv_ineg hx hb hd ?_
  rw [← iI_neg]
  exact K
theorem r_idiv (hG : IsG Γ R cc nL own ret post mc ms G) {a b : Int} (hr0 : (0 ≤ a ∧ a < 2147483648) ∧ (0 < b ∧ b < 2147483648)) (hd : Dc cc pc .idiv 1 n) (K : G cs n ls (nt (a / b) :: st) S) : G cs pc ls (nt b :: nt a :: st) S := by
  obtain ⟨p, e, s, m, args, below, meth, c, Q, hx, hb, hml, hown, hts, hK, hB, hX, hr, rfl⟩ := hG
  obtain ⟨hd, rfl⟩ := hd
  intro H locs la hP hD hS hl
  have K := K H locs la hP hD hS hl
  refine lv_idiv hx hb hd (iI_ne0 hr0.2) ?_
  rw [iI_div hr0.1 hr0.2]
  exact K
theorem r_irem (hG : IsG Γ R cc nL own ret post mc ms G) {a b : Int} (hr0 : (0 ≤ a ∧ a < 2147483648) ∧ (0 < b ∧ b < 2147483648)) (hd : Dc cc pc .irem 1 n) (K : G cs n ls (nt (a % b) :: st) S) : G cs pc ls (nt b :: nt a :: st) S := by
  obtain ⟨p, e, s, m, args, below, meth, c, Q, hx, hb, hml, hown, hts, hK, hB, hX, hr, rfl⟩ := hG
  obtain ⟨hd, rfl⟩ := hd
  intro H locs la hP hD hS hl
  have K := K H locs la hP hD hS hl
  refine lv_irem hx hb hd (iI_ne0 hr0.2) ?_
  rw [iI_rem hr0.1 hr0.2]
  exact K
theorem r_iand (hG : IsG Γ R cc nL own ret post mc ms G) {x y : Int32} (hd : Dc cc pc .iand 1 n) (K : G cs n ls (.int (x &&& y) :: st) S) : G cs pc ls (.int y :: .int x :: st) S := by
  obtain ⟨p, e, s, m, args, below, meth, c, Q, hx, hb, hml, hown, hts, hK, hB, hX, hr, rfl⟩ := hG
  obtain ⟨hd, rfl⟩ := hd
  intro H locs la hP hD hS hl
  have K := K H locs la hP hD hS hl
  exact lv_iand hx hb hd K
theorem r_ior (hG : IsG Γ R cc nL own ret post mc ms G) {x y : Int32} (hd : Dc cc pc .ior 1 n) (K : G cs n ls (.int (x ||| y) :: st) S) : G cs pc ls (.int y :: .int x :: st) S := by
  obtain ⟨p, e, s, m, args, below, meth, c, Q, hx, hb, hml, hown, hts, hK, hB, hX, hr, rfl⟩ := hG
  obtain ⟨hd, rfl⟩ := hd
  intro H locs la hP hD hS hl
  have K := K H locs la hP hD hS hl
  exact lv_ior hx hb hd K
theorem r_ixor (hG : IsG Γ R cc nL own ret post mc ms G) {x y : Int32} (hd : Dc cc pc .ixor 1 n) (K : G cs n ls (.int (x ^^^ y) :: st) S) : G cs pc ls (.int y :: .int x :: st) S := by
  obtain ⟨p, e, s, m, args, below, meth, c, Q, hx, hb, hml, hown, hts, hK, hB, hX, hr, rfl⟩ := hG
  obtain ⟨hd, rfl⟩ := hd
  intro H locs la hP hD hS hl
  have K := K H locs la hP hD hS hl
  exact lv_ixor hx hb hd K
theorem r_ishl (hG : IsG Γ R cc nL own ret post mc ms G) {x y : Int32} (hd : Dc cc pc .ishl 1 n) (K : G cs n ls (.int (x <<< (y &&& 31)) :: st) S) : G cs pc ls (.int y :: .int x :: st) S := by
  obtain ⟨p, e, s, m, args, below, meth, c, Q, hx, hb, hml, hown, hts, hK, hB, hX, hr, rfl⟩ := hG
  obtain ⟨hd, rfl⟩ := hd
  intro H locs la hP hD hS hl
  have K := K H locs la hP hD hS hl
  exact lv_ishl hx hb hd K
theorem r_ishr (hG : IsG Γ R cc nL own ret post mc ms G) {x y : Int32} (hd : Dc cc pc .ishr 1 n) (K : G cs n ls (.int (x >>> (y &&& 31)) :: st) S) : G cs pc ls (.int y :: .int x :: st) S := by
  obtain ⟨p, e, s, m, args, below, meth, c, Q, hx, hb, hml, hown, hts, hK, hB, hX, hr, rfl⟩ := hG
  obtain ⟨hd, rfl⟩ := hd
  intro H locs la hP hD hS hl
  have K := K H locs la hP hD hS hl
  exact lv_ishr hx hb hd K
theorem r_iushr (hG : IsG Γ R cc nL own ret post mc ms G) {x y : Int32} (hd : Dc cc pc .iushr 1 n) (K : G cs n ls (.int ((x.toUInt32 >>> (y.toUInt32 &&& Int32.toUInt32 31)).toInt32) :: st) S) : G cs pc ls (.int y :: .int x :: st) S := by
  obtain ⟨p, e, s, m, args, below, meth, c, Q, hx, hb, hml, hown, hts, hK, hB, hX, hr, rfl⟩ := hG
  obtain ⟨hd, rfl⟩ := hd
  intro H locs la hP hD hS hl
  have K := K H locs la hP hD hS hl
  exact lv_iushr hx hb hd rfl K
theorem r_iaddr (hG : IsG Γ R cc nL own ret post mc ms G) {x y : Int32} (hd : Dc cc pc .iadd 1 n) (K : G cs n ls (.int (x + y) :: st) S) : G cs pc ls (.int y :: .int x :: st) S := by
  obtain ⟨p, e, s, m, args, below, meth, c, Q, hx, hb, hml, hown, hts, hK, hB, hX, hr, rfl⟩ := hG
  obtain ⟨hd, rfl⟩ := hd
  intro H locs la hP hD hS hl
  have K := K H locs la hP hD hS hl
  exact lv_iadd hx hb hd K
theorem r_isubr (hG : IsG Γ R cc nL own ret post mc ms G) {x y : Int32} (hd : Dc cc pc .isub 1 n) (K : G cs n ls (.int (x - y) :: st) S) : G cs pc ls (.int y :: .int x :: st) S := by
  obtain ⟨p, e, s, m, args, below, meth, c, Q, hx, hb, hml, hown, hts, hK, hB, hX, hr, rfl⟩ := hG
  obtain ⟨hd, rfl⟩ := hd
  intro H locs la hP hD hS hl
  have K := K H locs la hP hD hS hl
  exact lv_isub hx hb hd K
theorem r_iremr (hG : IsG Γ R cc nL own ret post mc ms G) {x y : Int32} (h0 : ¬ y = 0) (hd : Dc cc pc .irem 1 n) (K : G cs n ls (.int (x - x / y * y) :: st) S) : G cs pc ls (.int y :: .int x :: st) S := by
  obtain ⟨p, e, s, m, args, below, meth, c, Q, hx, hb, hml, hown, hts, hK, hB, hX, hr, rfl⟩ := hG
  obtain ⟨hd, rfl⟩ := hd
  intro H locs la hP hD hS hl
  have K := K H locs la hP hD hS hl
  exact lv_irem hx hb hd h0 K
theorem r_i2l (hG : IsG Γ R cc nL own ret post mc ms G) {x : Int32} (hd : Dc cc pc .i2l 1 n) (K : G cs n ls (.long x.toInt64 :: st) S) : G cs pc ls (.int x :: st) S := by
  obtain ⟨p, e, s, m, args, below, meth, c, Q, hx, hb, hml, hown, hts, hK, hB, hX, hr, rfl⟩ := hG
  obtain ⟨hd, rfl⟩ := hd
  intro H locs la hP hD hS hl
  have K := K H locs la hP hD hS hl
  exact lv_i2l hx hb hd rfl K
theorem r_ladd (hG : IsG Γ R cc nL own ret post mc ms G) {x y : Int64} (hd : Dc cc pc .ladd 1 n) (K : G cs n ls (.long (x + y) :: st) S) : G cs pc ls (.long y :: .long x :: st) S := by
  obtain ⟨p, e, s, m, args, below, meth, c, Q, hx, hb, hml, hown, hts, hK, hB, hX, hr, rfl⟩ := hG
  obtain ⟨hd, rfl⟩ := hd
  intro H locs la hP hD hS hl
  have K := K H locs la hP hD hS hl
  exact lv_ladd hx hb hd K
theorem r_lmul (hG : IsG Γ R cc nL own ret post mc ms G) {x y : Int64} (hd : Dc cc pc .lmul 1 n) (K : G cs n ls (.long (x * y) :: st) S) : G cs pc ls (.long y :: .long x :: st) S := by
  obtain ⟨p, e, s, m, args, below, meth, c, Q, hx, hb, hml, hown, hts, hK, hB, hX, hr, rfl⟩ := hG
  obtain ⟨hd, rfl⟩ := hd
  intro H locs la hP hD hS hl
  have K := K H locs la hP hD hS hl
  exact lv_lmul hx hb hd K
theorem r_dup (hG : IsG Γ R cc nL own ret post mc ms G) {v : Value} (hv : v.category = 1 := by rfl) (hd : Dc cc pc .dup 1 n) (K : G cs n ls (v :: v :: st) S) : G cs pc ls (v :: st) S := by
  obtain ⟨p, e, s, m, args, below, meth, c, Q, hx, hb, hml, hown, hts, hK, hB, hX, hr, rfl⟩ := hG
  obtain ⟨hd, rfl⟩ := hd
  intro H locs la hP hD hS hl
  have K := K H locs la hP hD hS hl
  exact lv_dup hx hb hd hv K
theorem r_pop (hG : IsG Γ R cc nL own ret post mc ms G) {v : Value} (hv : v.category = 1 := by rfl) (hd : Dc cc pc .pop 1 n) (K : G cs n ls (st) S) : G cs pc ls (v :: st) S := by
  obtain ⟨p, e, s, m, args, below, meth, c, Q, hx, hb, hml, hown, hts, hK, hB, hX, hr, rfl⟩ := hG
  obtain ⟨hd, rfl⟩ := hd
  intro H locs la hP hD hS hl
  have K := K H locs la hP hD hS hl
  exact lv_pop hx hb hd hv K
theorem r_dup2 (hG : IsG Γ R cc nL own ret post mc ms G) {v w : Value} (hv : v.category = 1 := by rfl) (hw : w.category = 1 := by rfl) (hd : Dc cc pc .dup2 1 n) (K : G cs n ls (v :: w :: v :: w :: st) S) : G cs pc ls (v :: w :: st) S := by
  obtain ⟨p, e, s, m, args, below, meth, c, Q, hx, hb, hml, hown, hts, hK, hB, hX, hr, rfl⟩ := hG
  obtain ⟨hd, rfl⟩ := hd
  intro H locs la hP hD hS hl
  have K := K H locs la hP hD hS hl
  exact lv_dup2_11 hx hb hd hv hw K
theorem r_i2d (hG : IsG Γ R cc nL own ret post mc ms G) {x : Int32} (hd : Dc cc pc .i2d 1 n) (K : G cs n ls (.double (FP.i2d x) :: st) S) : G cs pc ls (.int x :: st) S := by
  obtain ⟨p, e, s, m, args, below, meth, c, Q, hx, hb, hml, hown, hts, hK, hB, hX, hr, rfl⟩ := hG
  obtain ⟨hd, rfl⟩ := hd
  intro H locs la hP hD hS hl
  have K := K H locs la hP hD hS hl
  exact lv_i2d hx hb hd K
theorem r_ddiv (hG : IsG Γ R cc nL own ret post mc ms G) {x y : UInt64} (hne : vf_n64 (FP.ddiv x y)) (hd : Dc cc pc .ddiv 1 n) (K : G cs n ls (.double (FP.ddiv x y) :: st) S) : G cs pc ls (.double y :: .double x :: st) S := by
  obtain ⟨p, e, s, m, args, below, meth, c, Q, hx, hb, hml, hown, hts, hK, hB, hX, hr, rfl⟩ := hG
  obtain ⟨hd, rfl⟩ := hd
  intro H locs la hP hD hS hl
  have K := K H locs la hP hD hS hl
  exact lv_ddiv hx hb hd hne K
theorem r_dcmp (hG : IsG Γ R cc nL own ret post mc ms G) {x y : UInt64} {q : CmpOp} (hd : Dc cc pc (.dcmp q) 1 n) (K : G cs n ls (.int (Op.cmpValue (FP.dcmp x y) q) :: st) S) : G cs pc ls (.double y :: .double x :: st) S := by
  obtain ⟨p, e, s, m, args, below, meth, c, Q, hx, hb, hml, hown, hts, hK, hB, hX, hr, rfl⟩ := hG
  obtain ⟨hd, rfl⟩ := hd
  intro H locs la hP hD hS hl
  have K := K H locs la hP hD hS hl
  exact lv_dcmp hx hb hd K
theorem r_dconst0 (hG : IsG Γ R cc nL own ret post mc ms G)  (hd : Dc cc pc (.dconst 0) 1 n) (K : G cs n ls (.double FP.dconst0 :: st) S) : G cs pc ls (st) S := by
  obtain ⟨p, e, s, m, args, below, meth, c, Q, hx, hb, hml, hown, hts, hK, hB, hX, hr, rfl⟩ := hG
  obtain ⟨hd, rfl⟩ := hd
  intro H locs la hP hD hS hl
  have K := K H locs la hP hD hS hl
  exact lv_dconst0 hx hb hd K
theorem r_istore_n (hG : IsG Γ R cc nL own ret post mc ms G) {k : Fin 4} {v : Value} (hv : ∃ x, v = .int x := by exact ⟨_, rfl⟩) (hd : Dc cc pc (.istore_n k) 1 n) (hi : k.val < nL := by decide) (K : fK (kp1 k.val) ls (fun l => G cs n ((k.val, v) :: l) st S)) : G cs pc ls (v :: st) S := by
  obtain ⟨p, e, s, m, args, below, meth, c, Q, hx, hb, hml, hown, hts, hK, hB, hX, hr, rfl⟩ := hG
  obtain ⟨hd, rfl⟩ := hd
  intro H locs la hP hD hS hl
  obtain ⟨x, rfl⟩ := hv
  refine lv_istore_n hx hb hd rfl hl hi rfl (fun la' hl' => ?_)
  exact fK_out K H locs la' hP hD hS (lv_mono hl' (kp1_sub _))
theorem r_istore (hG : IsG Γ R cc nL own ret post mc ms G) {k : Nat} {v : Value} (hv : ∃ x, v = .int x := by exact ⟨_, rfl⟩) (hd : Dc cc pc (.istore k) 2 n) (hi : k < nL := by decide) (K : fK (kp1 k) ls (fun l => G cs n ((k, v) :: l) st S)) : G cs pc ls (v :: st) S := by
  obtain ⟨p, e, s, m, args, below, meth, c, Q, hx, hb, hml, hown, hts, hK, hB, hX, hr, rfl⟩ := hG
  obtain ⟨hd, rfl⟩ := hd
  intro H locs la hP hD hS hl
  obtain ⟨x, rfl⟩ := hv
  refine lv_istore hx hb hd hl hi rfl (fun la' hl' => ?_)
  exact fK_out K H locs la' hP hD hS (lv_mono hl' (kp1_sub _))
theorem r_astore_n (hG : IsG Γ R cc nL own ret post mc ms G) {k : Fin 4} {v : Value} (hv : ∃ x, v = .ref x := by exact ⟨_, rfl⟩) (hd : Dc cc pc (.astore_n k) 1 n) (hi : k.val < nL := by decide) (K : fK (kp1 k.val) ls (fun l => G cs n ((k.val, v) :: l) st S)) : G cs pc ls (v :: st) S := by
  obtain ⟨p, e, s, m, args, below, meth, c, Q, hx, hb, hml, hown, hts, hK, hB, hX, hr, rfl⟩ := hG
  obtain ⟨hd, rfl⟩ := hd
  intro H locs la hP hD hS hl
  obtain ⟨x, rfl⟩ := hv
  refine lv_astore_n hx hb hd rfl hl hi rfl (fun la' hl' => ?_)
  exact fK_out K H locs la' hP hD hS (lv_mono hl' (kp1_sub _))
theorem r_astore (hG : IsG Γ R cc nL own ret post mc ms G) {k : Nat} {v : Value} (hv : ∃ x, v = .ref x := by exact ⟨_, rfl⟩) (hd : Dc cc pc (.astore k) 2 n) (hi : k < nL := by decide) (K : fK (kp1 k) ls (fun l => G cs n ((k, v) :: l) st S)) : G cs pc ls (v :: st) S := by
  obtain ⟨p, e, s, m, args, below, meth, c, Q, hx, hb, hml, hown, hts, hK, hB, hX, hr, rfl⟩ := hG
  obtain ⟨hd, rfl⟩ := hd
  intro H locs la hP hD hS hl
  obtain ⟨x, rfl⟩ := hv
  refine lv_astore hx hb hd hl hi rfl (fun la' hl' => ?_)
  exact fK_out K H locs la' hP hD hS (lv_mono hl' (kp1_sub _))
theorem r_lstore_n (hG : IsG Γ R cc nL own ret post mc ms G) {k : Fin 4} {x : Int64} (hd : Dc cc pc (.lstore_n k) 1 n) (hi : k.val + 1 < nL := by decide) (K : fK (kp2 k.val) ls (fun l => G cs n ((k.val, .long x) :: l) st S)) : G cs pc ls (.long x :: st) S := by
  obtain ⟨p, e, s, m, args, below, meth, c, Q, hx, hb, hml, hown, hts, hK, hB, hX, hr, rfl⟩ := hG
  obtain ⟨hd, rfl⟩ := hd
  intro H locs la hP hD hS hl
  refine lv_lstore_n hx hb hd rfl hl hi rfl (fun la' hl' => ?_)
  exact fK_out K H locs la' hP hD hS (lv_mono hl' (kp2_sub _))
theorem r_lstore (hG : IsG Γ R cc nL own ret post mc ms G) {k : Nat} {x : Int64} (hd : Dc cc pc (.lstore k) 2 n) (hi : k + 1 < nL := by decide) (K : fK (kp2 k) ls (fun l => G cs n ((k, .long x) :: l) st S)) : G cs pc ls (.long x :: st) S := by
  obtain ⟨p, e, s, m, args, below, meth, c, Q, hx, hb, hml, hown, hts, hK, hB, hX, hr, rfl⟩ := hG
  obtain ⟨hd, rfl⟩ := hd
  intro H locs la hP hD hS hl
  refine lv_lstore hx hb hd hl hi rfl (fun la' hl' => ?_)
  exact fK_out K H locs la' hP hD hS (lv_mono hl' (kp2_sub _))
theorem r_iinc (hG : IsG Γ R cc nL own ret post mc ms G) {k : Nat} {z a : Int} (hd : Dc cc pc (.iinc k z) 3 n) (hl0 : lk ls k = some (nt a)) (hi : k < nL := by decide) (K : fK (kp1 k) ls (fun l => G cs n ((k, nt (a + z)) :: l) st S)) : G cs pc ls st S := by
  obtain ⟨p, e, s, m, args, below, meth, c, Q, hx, hb, hml, hown, hts, hK, hB, hX, hr, rfl⟩ := hG
  obtain ⟨hd, rfl⟩ := hd
  intro H locs la hP hD hS hl
  obtain ⟨q, hq⟩ := List.getElem?_of_mem (lk_mem hl0)
  refine lv_iinc (v := iI (a + z)) hx hb hd hl hq (by rw [iI_add]; rfl) hi rfl (fun la' hl' => ?_)
  exact fK_out K H locs la' hP hD hS (lv_mono hl' (kp1_sub _))
theorem r_icmp_eq (hG : IsG Γ R cc nL own ret post mc ms G) {a b : Int} {tgt : Nat} (hd : Dj cc pc (.if_icmp .eq) tgt n) (hr0 : (-2147483648 ≤ a ∧ a < 2147483648) ∧ (-2147483648 ≤ b ∧ b < 2147483648) := by omega) (kt : a = b → G cs tgt ls st S) (kf : a ≠ b → G cs n ls st S) : G cs pc ls (nt b :: nt a :: st) S := by
  obtain ⟨p, e, s, m, args, below, meth, c, Q, hx, hb, hml, hown, hts, hK, hB, hX, hr, rfl⟩ := hG
  obtain ⟨off, hd, ht, rfl⟩ := hd
  intro H locs la hP hD hS hl
  refine lv_icmp_eq hx hb hd ht (fun h => ?_) (fun h => ?_)
  · exact kt (by have h := h; simp only [iI_eq hr0.1 hr0.2, iI_le hr0.1 hr0.2, iI_lt hr0.1 hr0.2, iI_le hr0.2 hr0.1, iI_lt hr0.2 hr0.1] at h; omega) H locs la hP hD hS hl
  · exact kf (by have h := h; simp only [iI_eq hr0.1 hr0.2, iI_le hr0.1 hr0.2, iI_lt hr0.1 hr0.2, iI_le hr0.2 hr0.1, iI_lt hr0.2 hr0.1] at h; omega) H locs la hP hD hS hl
theorem r_if_eq (hG : IsG Γ R cc nL own ret post mc ms G) {a : Int} {tgt : Nat} (hd : Dj cc pc (.ifCond .eq) tgt n) (hr0 : -2147483648 ≤ a ∧ a < 2147483648 := by omega) (kt : a = 0 → G cs tgt ls st S) (kf : a ≠ 0 → G cs n ls st S) : G cs pc ls (nt a :: st) S := by
  obtain ⟨p, e, s, m, args, below, meth, c, Q, hx, hb, hml, hown, hts, hK, hB, hX, hr, rfl⟩ := hG
  obtain ⟨off, hd, ht, rfl⟩ := hd
  intro H locs la hP hD hS hl
  have h0 : (0 : Int32) = iI 0 := rfl
  have hr1 : (-2147483648 : Int) ≤ 0 ∧ (0 : Int) < 2147483648 := by omega
  refine lv_if_eq hx hb hd ht (fun h => ?_) (fun h => ?_)
  · exact kt (by have h := h; rw [h0] at h; simp only [iI_eq hr0 hr1, iI_le hr0 hr1, iI_lt hr0 hr1, iI_le hr1 hr0, iI_lt hr1 hr0] at h; omega) H locs la hP hD hS hl
  · exact kf (by have h := h; rw [h0] at h; simp only [iI_eq hr0 hr1, iI_le hr0 hr1, iI_lt hr0 hr1, iI_le hr1 hr0, iI_lt hr1 hr0] at h; omega) H locs la hP hD hS hl
theorem r_icmp_ne (hG : IsG Γ R cc nL own ret post mc ms G) {a b : Int} {tgt : Nat} (hd : Dj cc pc (.if_icmp .ne) tgt n) (hr0 : (-2147483648 ≤ a ∧ a < 2147483648) ∧ (-2147483648 ≤ b ∧ b < 2147483648) := by omega) (kt : a ≠ b → G cs tgt ls st S) (kf : a = b → G cs n ls st S) : G cs pc ls (nt b :: nt a :: st) S := by
  obtain ⟨p, e, s, m, args, below, meth, c, Q, hx, hb, hml, hown, hts, hK, hB, hX, hr, rfl⟩ := hG
  obtain ⟨off, hd, ht, rfl⟩ := hd
  intro H locs la hP hD hS hl
  refine lv_icmp_ne hx hb hd ht (fun h => ?_) (fun h => ?_)
  · exact kt (by have h := h; simp only [iI_eq hr0.1 hr0.2, iI_le hr0.1 hr0.2, iI_lt hr0.1 hr0.2, iI_le hr0.2 hr0.1, iI_lt hr0.2 hr0.1] at h; omega) H locs la hP hD hS hl
  · exact kf (by have h := h; simp only [iI_eq hr0.1 hr0.2, iI_le hr0.1 hr0.2, iI_lt hr0.1 hr0.2, iI_le hr0.2 hr0.1, iI_lt hr0.2 hr0.1] at h; omega) H locs la hP hD hS hl
theorem r_if_ne (hG : IsG Γ R cc nL own ret post mc ms G) {a : Int} {tgt : Nat} (hd : Dj cc pc (.ifCond .ne) tgt n) (hr0 : -2147483648 ≤ a ∧ a < 2147483648 := by omega) (kt : a ≠ 0 → G cs tgt ls st S) (kf : a = 0 → G cs n ls st S) : G cs pc ls (nt a :: st) S := by
  obtain ⟨p, e, s, m, args, below, meth, c, Q, hx, hb, hml, hown, hts, hK, hB, hX, hr, rfl⟩ := hG
  obtain ⟨off, hd, ht, rfl⟩ := hd
  intro H locs la hP hD hS hl
  have h0 : (0 : Int32) = iI 0 := rfl
  have hr1 : (-2147483648 : Int) ≤ 0 ∧ (0 : Int) < 2147483648 := by omega
  refine lv_if_ne hx hb hd ht (fun h => ?_) (fun h => ?_)
  · exact kt (by have h := h; rw [h0] at h; simp only [iI_eq hr0 hr1, iI_le hr0 hr1, iI_lt hr0 hr1, iI_le hr1 hr0, iI_lt hr1 hr0] at h; omega) H locs la hP hD hS hl
  · exact kf (by have h := h; rw [h0] at h; simp only [iI_eq hr0 hr1, iI_le hr0 hr1, iI_lt hr0 hr1, iI_le hr1 hr0, iI_lt hr1 hr0] at h; omega) H locs la hP hD hS hl
theorem r_icmp_lt (hG : IsG Γ R cc nL own ret post mc ms G) {a b : Int} {tgt : Nat} (hd : Dj cc pc (.if_icmp .lt) tgt n) (hr0 : (-2147483648 ≤ a ∧ a < 2147483648) ∧ (-2147483648 ≤ b ∧ b < 2147483648) := by omega) (kt : a < b → G cs tgt ls st S) (kf : b ≤ a → G cs n ls st S) : G cs pc ls (nt b :: nt a :: st) S := by
  obtain ⟨p, e, s, m, args, below, meth, c, Q, hx, hb, hml, hown, hts, hK, hB, hX, hr, rfl⟩ := hG
  obtain ⟨off, hd, ht, rfl⟩ := hd
  intro H locs la hP hD hS hl
  refine lv_icmp_lt hx hb hd ht (fun h => ?_) (fun h => ?_)
  · exact kt (by have h := h; simp only [iI_eq hr0.1 hr0.2, iI_le hr0.1 hr0.2, iI_lt hr0.1 hr0.2, iI_le hr0.2 hr0.1, iI_lt hr0.2 hr0.1] at h; omega) H locs la hP hD hS hl
  · exact kf (by have h := h; simp only [iI_eq hr0.1 hr0.2, iI_le hr0.1 hr0.2, iI_lt hr0.1 hr0.2, iI_le hr0.2 hr0.1, iI_lt hr0.2 hr0.1] at h; omega) H locs la hP hD hS hl
theorem r_if_lt (hG : IsG Γ R cc nL own ret post mc ms G) {a : Int} {tgt : Nat} (hd : Dj cc pc (.ifCond .lt) tgt n) (hr0 : -2147483648 ≤ a ∧ a < 2147483648 := by omega) (kt : a < 0 → G cs tgt ls st S) (kf : 0 ≤ a → G cs n ls st S) : G cs pc ls (nt a :: st) S := by
  obtain ⟨p, e, s, m, args, below, meth, c, Q, hx, hb, hml, hown, hts, hK, hB, hX, hr, rfl⟩ := hG
  obtain ⟨off, hd, ht, rfl⟩ := hd
  intro H locs la hP hD hS hl
  have h0 : (0 : Int32) = iI 0 := rfl
  have hr1 : (-2147483648 : Int) ≤ 0 ∧ (0 : Int) < 2147483648 := by omega
  refine lv_if_lt hx hb hd ht (fun h => ?_) (fun h => ?_)
  · exact kt (by have h := h; rw [h0] at h; simp only [iI_eq hr0 hr1, iI_le hr0 hr1, iI_lt hr0 hr1, iI_le hr1 hr0, iI_lt hr1 hr0] at h; omega) H locs la hP hD hS hl
  · exact kf (by have h := h; rw [h0] at h; simp only [iI_eq hr0 hr1, iI_le hr0 hr1, iI_lt hr0 hr1, iI_le hr1 hr0, iI_lt hr1 hr0] at h; omega) H locs la hP hD hS hl
theorem r_icmp_ge (hG : IsG Γ R cc nL own ret post mc ms G) {a b : Int} {tgt : Nat} (hd : Dj cc pc (.if_icmp .ge) tgt n) (hr0 : (-2147483648 ≤ a ∧ a < 2147483648) ∧ (-2147483648 ≤ b ∧ b < 2147483648) := by omega) (kt : b ≤ a → G cs tgt ls st S) (kf : a < b → G cs n ls st S) : G cs pc ls (nt b :: nt a :: st) S := by
  obtain ⟨p, e, s, m, args, below, meth, c, Q, hx, hb, hml, hown, hts, hK, hB, hX, hr, rfl⟩ := hG
  obtain ⟨off, hd, ht, rfl⟩ := hd
  intro H locs la hP hD hS hl
  refine lv_icmp_ge hx hb hd ht (fun h => ?_) (fun h => ?_)
  · exact kt (by have h := h; simp only [iI_eq hr0.1 hr0.2, iI_le hr0.1 hr0.2, iI_lt hr0.1 hr0.2, iI_le hr0.2 hr0.1, iI_lt hr0.2 hr0.1] at h; omega) H locs la hP hD hS hl
  · exact kf (by have h := h; simp only [iI_eq hr0.1 hr0.2, iI_le hr0.1 hr0.2, iI_lt hr0.1 hr0.2, iI_le hr0.2 hr0.1, iI_lt hr0.2 hr0.1] at h; omega) H locs la hP hD hS hl
theorem r_if_ge (hG : IsG Γ R cc nL own ret post mc ms G) {a : Int} {tgt : Nat} (hd : Dj cc pc (.ifCond .ge) tgt n) (hr0 : -2147483648 ≤ a ∧ a < 2147483648 := by omega) (kt : 0 ≤ a → G cs tgt ls st S) (kf : a < 0 → G cs n ls st S) : G cs pc ls (nt a :: st) S := by
  obtain ⟨p, e, s, m, args, below, meth, c, Q, hx, hb, hml, hown, hts, hK, hB, hX, hr, rfl⟩ := hG
  obtain ⟨off, hd, ht, rfl⟩ := hd
  intro H locs la hP hD hS hl
  have h0 : (0 : Int32) = iI 0 := rfl
  have hr1 : (-2147483648 : Int) ≤ 0 ∧ (0 : Int) < 2147483648 := by omega
  refine lv_if_ge hx hb hd ht (fun h => ?_) (fun h => ?_)
  · exact kt (by have h := h; rw [h0] at h; simp only [iI_eq hr0 hr1, iI_le hr0 hr1, iI_lt hr0 hr1, iI_le hr1 hr0, iI_lt hr1 hr0] at h; omega) H locs la hP hD hS hl
  · exact kf (by have h := h; rw [h0] at h; simp only [iI_eq hr0 hr1, iI_le hr0 hr1, iI_lt hr0 hr1, iI_le hr1 hr0, iI_lt hr1 hr0] at h; omega) H locs la hP hD hS hl
theorem r_icmp_gt (hG : IsG Γ R cc nL own ret post mc ms G) {a b : Int} {tgt : Nat} (hd : Dj cc pc (.if_icmp .gt) tgt n) (hr0 : (-2147483648 ≤ a ∧ a < 2147483648) ∧ (-2147483648 ≤ b ∧ b < 2147483648) := by omega) (kt : b < a → G cs tgt ls st S) (kf : a ≤ b → G cs n ls st S) : G cs pc ls (nt b :: nt a :: st) S := by
  obtain ⟨p, e, s, m, args, below, meth, c, Q, hx, hb, hml, hown, hts, hK, hB, hX, hr, rfl⟩ := hG
  obtain ⟨off, hd, ht, rfl⟩ := hd
  intro H locs la hP hD hS hl
  refine lv_icmp_gt hx hb hd ht (fun h => ?_) (fun h => ?_)
  · exact kt (by have h := h; simp only [iI_eq hr0.1 hr0.2, iI_le hr0.1 hr0.2, iI_lt hr0.1 hr0.2, iI_le hr0.2 hr0.1, iI_lt hr0.2 hr0.1] at h; omega) H locs la hP hD hS hl
  · exact kf (by have h := h; simp only [iI_eq hr0.1 hr0.2, iI_le hr0.1 hr0.2, iI_lt hr0.1 hr0.2, iI_le hr0.2 hr0.1, iI_lt hr0.2 hr0.1] at h; omega) H locs la hP hD hS hl
theorem r_if_gt (hG : IsG Γ R cc nL own ret post mc ms G) {a : Int} {tgt : Nat} (hd : Dj cc pc (.ifCond .gt) tgt n) (hr0 : -2147483648 ≤ a ∧ a < 2147483648 := by omega) (kt : 0 < a → G cs tgt ls st S) (kf : a ≤ 0 → G cs n ls st S) : G cs pc ls (nt a :: st) S := by
  obtain ⟨p, e, s, m, args, below, meth, c, Q, hx, hb, hml, hown, hts, hK, hB, hX, hr, rfl⟩ := hG
  obtain ⟨off, hd, ht, rfl⟩ := hd
  intro H locs la hP hD hS hl
  have h0 : (0 : Int32) = iI 0 := rfl
  have hr1 : (-2147483648 : Int) ≤ 0 ∧ (0 : Int) < 2147483648 := by omega
  refine lv_if_gt hx hb hd ht (fun h => ?_) (fun h => ?_)
  · exact kt (by have h := h; rw [h0] at h; simp only [iI_eq hr0 hr1, iI_le hr0 hr1, iI_lt hr0 hr1, iI_le hr1 hr0, iI_lt hr1 hr0] at h; omega) H locs la hP hD hS hl
  · exact kf (by have h := h; rw [h0] at h; simp only [iI_eq hr0 hr1, iI_le hr0 hr1, iI_lt hr0 hr1, iI_le hr1 hr0, iI_lt hr1 hr0] at h; omega) H locs la hP hD hS hl
theorem r_icmp_le (hG : IsG Γ R cc nL own ret post mc ms G) {a b : Int} {tgt : Nat} (hd : Dj cc pc (.if_icmp .le) tgt n) (hr0 : (-2147483648 ≤ a ∧ a < 2147483648) ∧ (-2147483648 ≤ b ∧ b < 2147483648) := by omega) (kt : a ≤ b → G cs tgt ls st S) (kf : b < a → G cs n ls st S) : G cs pc ls (nt b :: nt a :: st) S := by
  obtain ⟨p, e, s, m, args, below, meth, c, Q, hx, hb, hml, hown, hts, hK, hB, hX, hr, rfl⟩ := hG
  obtain ⟨off, hd, ht, rfl⟩ := hd
  intro H locs la hP hD hS hl
  refine lv_icmp_le hx hb hd ht (fun h => ?_) (fun h => ?_)
  · exact kt (by have h := h; simp only [iI_eq hr0.1 hr0.2, iI_le hr0.1 hr0.2, iI_lt hr0.1 hr0.2, iI_le hr0.2 hr0.1, iI_lt hr0.2 hr0.1] at h; omega) H locs la hP hD hS hl
  · exact kf (by have h := h; simp only [iI_eq hr0.1 hr0.2, iI_le hr0.1 hr0.2, iI_lt hr0.1 hr0.2, iI_le hr0.2 hr0.1, iI_lt hr0.2 hr0.1] at h; omega) H locs la hP hD hS hl
theorem r_if_le (hG : IsG Γ R cc nL own ret post mc ms G) {a : Int} {tgt : Nat} (hd : Dj cc pc (.ifCond .le) tgt n) (hr0 : -2147483648 ≤ a ∧ a < 2147483648 := by omega) (kt : a ≤ 0 → G cs tgt ls st S) (kf : 0 < a → G cs n ls st S) : G cs pc ls (nt a :: st) S := by
  obtain ⟨p, e, s, m, args, below, meth, c, Q, hx, hb, hml, hown, hts, hK, hB, hX, hr, rfl⟩ := hG
  obtain ⟨off, hd, ht, rfl⟩ := hd
  intro H locs la hP hD hS hl
  have h0 : (0 : Int32) = iI 0 := rfl
  have hr1 : (-2147483648 : Int) ≤ 0 ∧ (0 : Int) < 2147483648 := by omega
  refine lv_if_le hx hb hd ht (fun h => ?_) (fun h => ?_)
  · exact kt (by have h := h; rw [h0] at h; simp only [iI_eq hr0 hr1, iI_le hr0 hr1, iI_lt hr0 hr1, iI_le hr1 hr0, iI_lt hr1 hr0] at h; omega) H locs la hP hD hS hl
  · exact kf (by have h := h; rw [h0] at h; simp only [iI_eq hr0 hr1, iI_le hr0 hr1, iI_lt hr0 hr1, iI_le hr1 hr0, iI_lt hr1 hr0] at h; omega) H locs la hP hD hS hl
theorem r_goto (hG : IsG Γ R cc nL own ret post mc ms G) {tgt : Nat} (hd : Dj cc pc .goto tgt n) (K : G cs tgt ls st S) : G cs pc ls st S := by
  obtain ⟨p, e, s, m, args, below, meth, c, Q, hx, hb, hml, hown, hts, hK, hB, hX, hr, rfl⟩ := hG
  obtain ⟨off, hd, ht, rfl⟩ := hd
  intro H locs la hP hD hS hl
  exact lv_goto hx hb hd ht (K H locs la hP hD hS hl)
theorem r_iret (hG : IsG Γ R cc nL own (some .int) post mc ms G) {x : Int32} (hd : Dc cc pc .ireturn 1 n) (hm : cs.1 ≤ mc ∧ cs.2 ≤ ms) (hp : post (some (.int x)) S) : G cs pc ls [.int x] S := by
  obtain ⟨p, e, s, m, args, below, meth, c, Q, hx, hb, hml, hown, hts, hK, hB, hX, hr, rfl⟩ := hG
  obtain ⟨hd, rfl⟩ := hd
  intro H locs la hP hD hS hl
  exact hr _ _ _ _ (some (.int x)) S H locs la hP hD hS hm.1 hm.2 hd (Or.inl ⟨rfl, rfl, _, rfl⟩) hp
theorem r_zret (hG : IsG Γ R cc nL own (some .boolean) post mc ms G) {a : Int} (hd : Dc cc pc .ireturn 1 n) (hm : cs.1 ≤ mc ∧ cs.2 ≤ ms) (h01 : a = 0 ∨ a = 1) (hp : post (some (nt a)) S) : G cs pc ls [nt a] S := by
  obtain ⟨p, e, s, m, args, below, meth, c, Q, hx, hb, hml, hown, hts, hK, hB, hX, hr, rfl⟩ := hG
  obtain ⟨hd, rfl⟩ := hd
  intro H locs la hP hD hS hl
  exact hr _ _ _ _ (some (nt a)) S H locs la hP hD hS hm.1 hm.2 hd (Or.inr (Or.inl ⟨rfl, rfl, _, rfl, by rcases h01 with rfl | rfl <;> decide⟩)) hp
theorem r_lret (hG : IsG Γ R cc nL own (some .long) post mc ms G) {x : Int64} (hd : Dc cc pc .lreturn 1 n) (hm : cs.1 ≤ mc ∧ cs.2 ≤ ms) (hp : post (some (.long x)) S) : G cs pc ls [.long x] S := by
  obtain ⟨p, e, s, m, args, below, meth, c, Q, hx, hb, hml, hown, hts, hK, hB, hX, hr, rfl⟩ := hG
  obtain ⟨hd, rfl⟩ := hd
  intro H locs la hP hD hS hl
  exact hr _ _ _ _ (some (.long x)) S H locs la hP hD hS hm.1 hm.2 hd (Or.inr (Or.inr (Or.inl ⟨rfl, rfl, _, rfl⟩))) hp
theorem r_dret (hG : IsG Γ R cc nL own (some .double) post mc ms G) {x : UInt64} (hd : Dc cc pc .dreturn 1 n) (hm : cs.1 ≤ mc ∧ cs.2 ≤ ms) (hp : post (some (.double x)) S) : G cs pc ls [.double x] S := by
  obtain ⟨p, e, s, m, args, below, meth, c, Q, hx, hb, hml, hown, hts, hK, hB, hX, hr, rfl⟩ := hG
  obtain ⟨hd, rfl⟩ := hd
  intro H locs la hP hD hS hl
  exact hr _ _ _ _ (some (.double x)) S H locs la hP hD hS hm.1 hm.2 hd (Or.inr (Or.inr (Or.inr (Or.inl ⟨rfl, rfl, _, rfl⟩)))) hp
theorem r_aret {rt : FieldType} (hG : IsG Γ R cc nL own (some rt) post mc ms G) {v : Value} (hd : Dc cc pc .areturn 1 n) (hm : cs.1 ≤ mc ∧ cs.2 ≤ ms) (hrt : (∃ n, rt = .object n) ∨ ∃ t, rt = .array t) (hv : ∃ x, v = .ref x) (hp : post (some v) S) : G cs pc ls [v] S := by
  obtain ⟨p, e, s, m, args, below, meth, c, Q, hx, hb, hml, hown, hts, hK, hB, hX, hr, rfl⟩ := hG
  obtain ⟨hd, rfl⟩ := hd
  obtain ⟨x, rfl⟩ := hv
  intro H locs la hP hD hS hl
  exact hr _ _ _ _ (some (.ref x)) S H locs la hP hD hS hm.1 hm.2 hd (Or.inr (Or.inr (Or.inr (Or.inr (Or.inl ⟨⟨rt, rfl, hrt⟩, rfl, _, rfl⟩))))) hp
theorem r_vret (hG : IsG Γ R cc nL own none post mc ms G) (hd : Dc cc pc .return_ 1 n) (hm : cs.1 ≤ mc ∧ cs.2 ≤ ms) (hp : post none S) : G cs pc ls [] S := by
  obtain ⟨p, e, s, m, args, below, meth, c, Q, hx, hb, hml, hown, hts, hK, hB, hX, hr, rfl⟩ := hG
  obtain ⟨hd, rfl⟩ := hd
  intro H locs la hP hD hS hl
  exact hr _ _ _ _ none S H locs la hP hD hS hm.1 hm.2 hd (Or.inr (Or.inr (Or.inr (Or.inr (Or.inr ⟨rfl, rfl, rfl⟩))))) hp
/-- fewer locals are known -/
def subL (ls : List (Nat × Value)) (l : List (Nat × Value)) : Prop := match l with
  | [] => True
  | q :: l => lk ls q.1 = some q.2 ∧ subL ls l
theorem subL_mem {ls l : List (Nat × Value)} (h : subL ls l) : ∀ q, q ∈ l → q ∈ ls := by
  induction l with
  | nil => intro q hq; cases hq
  | cons a l ih =>
    intro q hq
    rcases List.mem_cons.mp hq with e | e
    · rw [e]; exact lk_mem h.1
    · exact ih h.2 q e
theorem r_sub (hG : IsG Γ R cc nL own ret post mc ms G) {l : List (Nat × Value)} (h : subL ls l) (K : G cs pc l st S) : G cs pc ls st S := by
  obtain ⟨p, e, s, m, args, below, meth, c, Q, hx, hb, hml, hown, hts, hK, hB, hX, hr, rfl⟩ := hG
  intro H locs la hP hD hS hl
  exact K H locs la hP hD hS (lv_mono hl (subL_mem h))
/-- more room is counted than was used -/
theorem r_wide (hG : IsG Γ R cc nL own ret post mc ms G) {k w : Nat} (h : cs.1 ≤ k ∧ cs.2 ≤ w) (K : G (k, w) pc ls st S) : G cs pc ls st S := by
  obtain ⟨p, e, s, m, args, below, meth, c, Q, hx, hb, hml, hown, hts, hK, hB, hX, hr, rfl⟩ := hG
  intro H locs la hP hD hS hl
  exact W.widen h.1 h.2 (K H locs la hP hD hS hl)
theorem r_get (hG : IsG Γ R cc nL own ret post mc ms G) {idx k i j ci N : Nat} {C : String} {T : u_T} {fs : List Value} {v : Value} (hd : Dc cc pc (.getfield idx) 3 n) (hk : k < 25) (hi : i < cnt k) (he : CL Γ S k i = .inr (ci, fs)) (hc : classes[ci]? = some (C, T, N)) (hin : ∀ w ∈ u_ws C T N, w ∈ tg) (hj : j < N) (hT : (T j).1 = C) (hlk : Cond.fieldLink own idx C (T j).2.1 (T j).2.2.1 ∈ tg) (hv : fs[j]? = some v)
    (K : G cs n ls (v :: st) S) : G cs pc ls (rf Γ k i :: st) S := by
  obtain ⟨p, e, s, m, args, below, meth, c, Q, hx, hb, hml, hown, hts, hK, hB, hX, hr, rfl⟩ := hG
  obtain ⟨hd, rfl⟩ := hd
  intro H locs la hP hD hS hl
  exact va_get (D := gD Γ) (cl := classes) (ws := wl Γ S) hx hb hts hin hown hK hP (off k i) (by rw [wl_at Γ S hk hi, he]) hc j hj (hts _ hlk) (by rw [hT]; exact fun _ h => h) hv hd (K H locs la hP hD hS hl)
theorem r_put (hG : IsG Γ R cc nL own ret post mc ms G) {idx k i j ci N f q : Nat} {C : String} {T : u_T} {t : Nat → FieldType} {fs : List Value} {z : Int} (hd : Dc cc pc (.putfield idx) 3 n) (hk : k < 25) (hi : i < cnt k) (he : CL Γ S k i = .inr (ci, fs)) (hc : classes[ci]? = some (C, T, N)) (hin : ∀ w ∈ u_ws C T N, w ∈ tg) (hty : ∀ k, k < N → parseFieldDescriptor (T k).2.2.1 = some (t k)) (hnm : ∀ a, a < N → ∀ b, b < N → a ≠ b → (T a).2.1 ≠ (T b).2.1)
    (hj : j < N) (hT : (T j).1 = C) (hlk : Cond.fieldLink own idx C (T j).2.1 (T j).2.2.1 ∈ tg) (hfin : (T j).2.2.2 = false) (hdesc : parseFieldDescriptor (T j).2.2.1 = some .int) (hl0 : j < fs.length) (hf : fk f = k) (hf1 : f < 80) (hcs : CL Γ (sU S f i q z) k i = .inr (ci, fs.set j (nt z)))
    (K : G cs n ls st (sU S f i q z)) : G cs pc ls (nt z :: rf Γ k i :: st) S := by
  obtain ⟨p, e, s, m, args, below, meth, c, Q, hx, hb, hml, hown, hts, hK, hB, hX, hr, rfl⟩ := hG
  obtain ⟨hd, rfl⟩ := hd
  intro H locs la hP hD hS hl
  refine va_put (D := gD Γ) (cl := classes) (ws := wl Γ S) (v := nt z) (ty := .int) hx hb hts hin t hty hnm hown hK hP hD hS (off k i) (by rw [wl_at Γ S hk hi, he]) hc j hj (hts _ hlk) (by rw [hT]; exact fun _ h => h) hfin hdesc rfl rfl hl0 hd (fun H1 locs1 hP1 hD1 hS1 => ?_)
  rw [wl_put Γ hk hi hf hf1 hcs] at hP1 hD1
  exact K H1 locs1 la hP1 hD1 hS1 hl
theorem iI_in {N j : Nat} (hj : j < N) (hN : N < 2147483648) : vp_in (iI (j : Int)) N ∧ (iI (j : Int)).toNatClampNeg = j := by
  have e : iI (j : Int) = nI j := by rw [iI_nI (by omega), Int.toNat_natCast]
  rw [e]
  exact ⟨vp_in_nI hj (by omega), nI_clamp (by omega)⟩
theorem r_iald (hG : IsG Γ R cc nL own ret post mc ms G) {k i N f j : Nat} {z : Int} (hd : Dc cc pc .iaload 1 n) (hz : z = (j : Int)) (hj : j < N) (hN : N < 2147483648) (hk : k < 25) (hi : i < cnt k) (he : CL Γ S k i = .inl (gC Γ 0, N, .inl (fun q => iI (S f i q))))
    (K : G cs n ls (nt (S f i j) :: st) S) : G cs pc ls (nt z :: rf Γ k i :: st) S := by
  obtain ⟨p, e, s, m, args, below, meth, c, Q, hx, hb, hml, hown, hts, hK, hB, hX, hr, rfl⟩ := hG
  obtain ⟨hd, rfl⟩ := hd
  subst hz
  intro H locs la hP hD hS hl
  obtain ⟨h1, h2⟩ := iI_in hj hN
  refine va_iald (D := gD Γ) (cl := classes) (ws := wl Γ S) hx hb hK hP (off k i) 0 (by rw [wl_at Γ S hk hi, he]) rfl h1 hd ?_
  rw [h2]
  exact K H locs la hP hD hS hl
theorem r_iast (hG : IsG Γ R cc nL own ret post mc ms G) {k i N f j : Nat} {z x : Int} (hd : Dc cc pc .iastore 1 n) (hz : z = (j : Int)) (hj : j < N) (hN : N < 2147483648) (hk : k < 25) (hi : i < cnt k) (he : CL Γ S k i = .inl (gC Γ 0, N, .inl (fun q => iI (S f i q)))) (hf : fk f = k) (hf1 : f < 80) (hcs : CL Γ (sU S f i j x) k i = .inl (gC Γ 0, N, .inl (upd (fun q => iI (S f i q)) j (iI x))))
    (K : G cs n ls st (sU S f i j x)) : G cs pc ls (nt x :: nt z :: rf Γ k i :: st) S := by
  obtain ⟨p, e, s, m, args, below, meth, c, Q, hx, hb, hml, hown, hts, hK, hB, hX, hr, rfl⟩ := hG
  obtain ⟨hd, rfl⟩ := hd
  subst hz
  intro H locs la hP hD hS hl
  obtain ⟨h1, h2⟩ := iI_in hj hN
  refine va_iast (D := gD Γ) (cl := classes) (ws := wl Γ S) hx hb hK hP hD hS (off k i) 0 (by rw [wl_at Γ S hk hi, he]) rfl h1 hd (fun H1 locs1 hP1 hD1 hS1 => ?_)
  rw [h2, wl_put Γ hk hi hf hf1 hcs] at hP1 hD1
  exact K H1 locs1 la hP1 hD1 hS1 hl
theorem r_aald (hG : IsG Γ R cc nL own ret post mc ms G) {k i N j q t0 : Nat} {C : String} {g : Nat → Nat} {z : Int} (hd : Dc cc pc .aaload 1 n) (hz : z = (j : Int)) (hj : j < N) (hN : N < 2147483648) (hk : k < 25) (hi : i < cnt k) (ht : (tys Γ)[t0]? = some (gC Γ q, .object C)) (he : CL Γ S k i = .inl (gC Γ q, N, .inr (.inr (.inr (.inr (fun j => some (gA Γ (g j))))))))
    (K : G cs n ls (.ref (gA Γ (g j)) :: st) S) : G cs pc ls (nt z :: rf Γ k i :: st) S := by
  obtain ⟨p, e, s, m, args, below, meth, c, Q, hx, hb, hml, hown, hts, hK, hB, hX, hr, rfl⟩ := hG
  obtain ⟨hd, rfl⟩ := hd
  subst hz
  intro H locs la hP hD hS hl
  obtain ⟨h1, h2⟩ := iI_in hj hN
  refine va_aldq (D := gD Γ) (cl := classes) (ws := wl Γ S) hx hb hK hP (off k i) t0 (by rw [wl_at Γ S hk hi, he]) ht h1 hd ?_
  rw [h2]
  exact K H locs la hP hD hS hl
/-- rounds[day]: a row of an array of rows -/
theorem r_aald22 (hG : IsG Γ R cc nL own ret post mc ms G) {i j : Nat} {z : Int} (hd : Dc cc pc .aaload 1 n) (hz : z = (j : Int)) (hj : j < 7) (hi : i < 3) (K : G cs n ls (rf Γ 23 (7 * i + j) :: st) S) : G cs pc ls (nt z :: rf Γ 22 i :: st) S := by
  obtain ⟨p, e, s, m, args, below, meth, c, Q, hx, hb, hml, hown, hts, hK, hB, hX, hr, rfl⟩ := hG
  obtain ⟨hd, rfl⟩ := hd
  subst hz
  intro H locs la hP hD hS hl
  obtain ⟨h1, h2⟩ := iI_in hj (by decide)
  have hq := hP (off 22 i) _ (wl_at Γ S (k := 22) (by decide) hi)
  refine W.aald (v := rf Γ 23 (7 * i + j)) (ty := .array .int) hx hb hq ((hK.2 4 _ rfl).1 7 (fun j => va_rf (some (gA Γ (off 23 (7 * i + j)))))) rfl (fun q => by cases q) ?_ ?_ rfl rfl hd (K H locs la hP hD hS hl)
  · show ¬ (_ < 0 ∨ (arrV _ _ _).slots.size ≤ _)
    rw [arrV_size]
    exact h1
  · show (arrV _ _ _).slots[_]? = _
    rw [h2, arrV_read _ _ hj]
    rfl
theorem r_alen1 (hG : IsG Γ R cc nL own ret post mc ms G) {i : Nat} (hd : Dc cc pc .arraylength 1 n) (hi : i < 2) (K : G cs n ls (nt 6 :: st) S) : G cs pc ls (rf Γ 1 i :: st) S := by
  obtain ⟨p, e, s, m, args, below, meth, c, Q, hx, hb, hml, hown, hts, hK, hB, hX, hr, rfl⟩ := hG
  obtain ⟨hd, rfl⟩ := hd
  intro H locs la hP hD hS hl
  exact va_alen (D := gD Γ) (cl := classes) (ws := wl Γ S) hx hb hK hP (off 1 i) 1 (wl_at Γ S (k := 1) (by decide) hi) rfl rfl hd (K H locs la hP hD hS hl)
end RW
/-- a contract: y, called with As in the state S, comes back with post; in the room rm -/
def CT (Γ : Gm) (y : MethodName) (bts : ByteArray) (nY : Nat) (rY : Option FieldType) (rm : Room) (As : List Value) (S : St) (post : Option Value → St → Prop) : Prop :=
  Met (gL Γ) y (.code y bts nY rY :: tg) rm (va_Pc As (WD Γ S)) (fun _ s oc t => (∃ (v : Option Value) (S' : St), oc = .returned v ∧ post v S' ∧ WD Γ S' t) ∧ va_F (gF Γ) s t) rm.cells rm.slots (gF Γ)
def rmx (k mc ms : Nat) : Room := { frames := k, cells := mc, slots := ms, locals := 30 * k }
theorem tg_goodIn {w0 : Cond} (h0 : w0 ∈ tg) : GoodIn tg (w0 :: tg) := by
  intro w hw
  rcases List.mem_cons.mp hw with h | h
  · rw [h]; exact ⟨h0, good_of_word (List.mem_filter.mp h0).2⟩
  · exact ⟨h, good_of_word (List.mem_filter.mp h).2⟩
theorem WD.to {Γ : Gm} {S : St} {s t : State} {H : Heap} {locs : List Loc} (hK : va_K (gD Γ) classes (tys Γ) s) (hX : (va_X (gX Γ).1 (gX Γ).2.1 (gX Γ).2.2 s s.heap ∧ (gX Γ).1 < gB Γ) ∧ NW s) (hB : gB Γ ≤ s.heap.size) (hP : va_P (gD Γ) classes (wl Γ S) H) (hD : va_D (gF Γ) (wl Γ S)) (hS : va_S (gF Γ) s.heap H locs) (ht : t.heap = H) (hW : s.WarmedH t.vm) : WD Γ S t := by
  obtain ⟨hX, hN⟩ := hX
  refine ⟨va_K.moved hW.alike hK, by rw [ht]; exact hP, hD, by rw [ht]; exact Nat.le_trans hB hS.1, va_X.moved hW.alike (va_X.kept hX.1 ?_), hX.2, va_Nw.warmM hW hN⟩
  rw [ht]
  exact hS.2.1 _ (Nat.lt_of_lt_of_le hX.2 hB) (fun q => absurd hX.2 (Nat.not_lt.mpr q))
theorem ofWF {l : Launch} {y : MethodName} {ws ws' : List Cond} {rm : Room} {Pc : Array Value → State → Prop} {Qc : Array Value → State → Outcome → State → Prop} {mc ms : Nat} {free : Addr → Prop} {cc : ByteArray} {maxL : Nat} {ret : Option FieldType}
    (hy : plainFor y = true) (hw : ws = Cond.code y cc maxL ret :: ws')
    (body : ∀ p e s m args below meth c s₁, BodyLoose p l y (headSpec ws rm) cc maxL ret e s m args below meth c s₁ → c.maxLocals = maxL → Pc args s →
      W p l e (headSpec ws rm).room s m args below meth c s.heap [] 0 0 (MQ below Qc args s mc ms free) (entryFrame m args maxL)) : Met l y ws rm Pc Qc mc ms free := by
  refine MetFree.of_bodySF (code := cc) (maxLocals := maxL) (ret := ret) hy ?_ ?_
  · intro args s m h hn
    obtain ⟨meth, c, h1, h2, h3, h4, h5, h6, -, -⟩ := Cond.code_spec hn (atoms_spec (ws := ws) h _ (by rw [hw]; exact List.mem_cons_self))
    exact ⟨meth, c, h1, h2, h3, h4, h5, h6⟩
  · intro p e s m args below meth c s₁ B hml hP _
    have hh0 : s₁.heap = s.heap := by rw [B.state]; rfl
    obtain ⟨t, a1, o, b1, b2, b3⟩ := body p e s m args below meth c s₁ B hml hP s₁ hh0 (Stand.of_body B)
    exact ⟨t, o, a1, b1, b2, ⟨b3.1, b3.2⟩⟩
theorem CT.of {Γ : Gm} {y : MethodName} {bts : ByteArray} {nY : Nat} {rY : Option FieldType} {rm : Room} {As : List Value} {S : St} {post : Option Value → St → Prop} (hy : plainFor y = true) (hlen : (lg_sl As).length ≤ nY)
    (h : ∀ G, IsG Γ rm bts nY y.cls rY post rm.cells rm.slots G → G (0, 0) 0 (lv_args 0 As) [] S) : CT Γ y bts nY rY rm As S post := by
  refine ofWF (cc := bts) (maxL := nY) (ret := rY) hy rfl ?_
  intro p e s m args below meth c s₁ B hml hv
  obtain ⟨rfl, hK, hP, hD, hB, hX, hXl, hN⟩ := hv
  have hts0 := atoms_spec (ws := .code y bts nY rY :: tg) B.pre
  have hts : ∀ w ∈ tg, w.before As.toArray s = true := fun w hw => hts0 w (List.mem_cons_of_mem _ hw)
  have hlocks := B.notSynchronized
  have hr0 := B.returns
  have hb := B.bytes
  have hx := B.exec
  have hl := lv_entry As (n := nY) hlen
  rw [lg_entry_eq]
  generalize (lg_sl As ++ List.replicate (nY - (lg_sl As).length) Slot.unset).toArray = la at hl ⊢
  refine h _ ⟨p, e, s, m, As.toArray, below, meth, c, MQ below _ As.toArray s rm.cells rm.slots (gF Γ), hx, hb, hml, findClass_of_methodNamed B.named, hts, hK, hB, ⟨⟨hX, hXl⟩, hN⟩, ?_, rfl⟩ s.heap [] la hP hD va_S.rf hl
  intro k n pc i v S' H locs la' hP' hD' hS' hk hn hdg hret hpost
  have hq : ∀ t : State, t.heap = H → s.WarmedH t.vm → ∀ v', v' = v → (∃ (v : Option Value) (S' : St), Outcome.returned v' = .returned v ∧ post v S' ∧ WD Γ S' t) ∧ va_F (gF Γ) s t := by
    intro t ht hW v' hv'
    subst hv'
    exact ⟨⟨_, S', rfl, hpost, WD.to hK ⟨⟨hX, hXl⟩, hN⟩ hB hP' hD' hS' ht hW⟩, hS'.F ht⟩
  refine W.widen hk hn ?_
  rcases hret with ⟨h1, h2, x, h3⟩ | ⟨h1, h2, x, h3, h4⟩ | ⟨h1, h2, x, h3⟩ | ⟨h1, h2, x, h3⟩ | ⟨⟨rt, h1, h5⟩, h2, x, h3⟩ | ⟨h1, h2, h3⟩
  · subst h1 h2 h3
    exact W.iret hx hb hr0 (fun t ht hW => hq t ht hW _ rfl) hS'.2.2 hdg hlocks
  · subst h1 h2 h3
    exact W.zret hx hb hr0 h4 (fun t ht hW => hq t ht hW _ rfl) hS'.2.2 hdg hlocks
  · subst h1 h2 h3
    exact W.lret hx hb hr0 (fun t ht hW => hq t ht hW _ rfl) hS'.2.2 hdg hlocks
  · subst h1 h2 h3
    exact W.dret hx hb hr0 (fun t ht hW => hq t ht hW _ rfl) hS'.2.2 hdg hlocks
  · subst h1 h2 h3
    exact W.aret hx hb hr0 h5 (Or.inr ⟨_, rfl⟩) (fun t ht hW => hq t ht hW _ rfl) hS'.2.2 hdg hlocks
  · subst h1 h2 h3
    exact W.vret hx hb hr0 (fun t ht hW => hq t ht hW _ rfl) hS'.2.2 hdg hlocks
end
section
/-! made by wip/p28/gen/calls.py -/
theorem MM_ini : Cond.initialized "java/lang/Math" ∈ tg := (m_T1 (i := 19) (by decide +kernel) (by decide +kernel))
theorem MM_min : Cond.static Lib.Math.min.name ∈ tg ∧ Cond.code Lib.Math.min.name Lib.Math.min.code 2 (some .int) ∈ tg := ⟨(m_T3 (i := 159) (by decide +kernel) (by decide +kernel)), (m_T3 (i := 160) (by decide +kernel) (by decide +kernel))⟩
theorem MM_max : Cond.static Lib.Math.max.name ∈ tg ∧ Cond.code Lib.Math.max.name Lib.Math.max.code 2 (some .int) ∈ tg := ⟨(m_T3 (i := 143) (by decide +kernel) (by decide +kernel)), (m_T3 (i := 144) (by decide +kernel) (by decide +kernel))⟩
theorem MM_abs : Cond.static Lib.Math.abs.name ∈ tg ∧ Cond.code Lib.Math.abs.name Lib.Math.abs.code 1 (some .int) ∈ tg := ⟨(m_T3 (i := 168) (by decide +kernel) (by decide +kernel)), (m_T3 (i := 169) (by decide +kernel) (by decide +kernel))⟩
/-! CALLS, and the JDK's small ones -/
def kwV (own : String) (idx : Nat) (y : MethodName) (bts : ByteArray) (nY : Nat) (rY : Option FieldType) (na : Nat) : Prop :=
  Cond.methodLink own idx y ∈ tg ∧ Cond.instanceMethod y ∈ tg ∧ Cond.selects y.cls y y ∈ tg ∧ Cond.initialized y.cls ∈ tg ∧ Cond.code y bts nY rY ∈ tg ∧ (y.cls ≠ "java/lang/invoke/MethodHandle" ∧ y.cls ≠ "java/lang/invoke/VarHandle") ∧ (parseMethodDescriptor y.desc).map (fun d => d.parameters.length) = some na
def kwS (own : String) (idx : Nat) (y : MethodName) (bts : ByteArray) (nY : Nat) (rY : Option FieldType) (na : Nat) : Prop :=
  Cond.methodLink own idx y ∈ tg ∧ Cond.static y ∈ tg ∧ Cond.initialized y.cls ∈ tg ∧ Cond.code y bts nY rY ∈ tg ∧ (y.cls ≠ "java/lang/invoke/MethodHandle" ∧ y.cls ≠ "java/lang/invoke/VarHandle") ∧ (parseMethodDescriptor y.desc).map (fun d => d.parameters.length) = some na
def kwN (own : String) (idx : Nat) (y : MethodName) (host : String) (bts : ByteArray) (nY : Nat) (rY : Option FieldType) (na : Nat) : Prop :=
  (∀ U : State, NW U → va_Nw (.methodLinkNest own idx y host) U) ∧ Cond.static y ∈ tg ∧ Cond.initialized y.cls ∈ tg ∧ Cond.code y bts nY rY ∈ tg ∧ (y.cls ≠ "java/lang/invoke/MethodHandle" ∧ y.cls ≠ "java/lang/invoke/VarHandle") ∧ (parseMethodDescriptor y.desc).map (fun d => d.parameters.length) = some na
def rcv (k : Nat) (C : String) : Prop := ∃ (ci : Nat) (T : u_T) (N : Nat), classes[ci]? = some (C, T, N) ∧ ∀ (Γ : Gm) (S : St) (i : Nat), ∃ fs, CL Γ S k i = .inr (ci, fs)
theorem WD.blind {Γ : Gm} {S : St} {As : List Value} : FrameBlind (va_Pc As (WD Γ S)) := fun a U g mk q => ⟨q.1, va_K.moved (u := U) (U := U.calling g mk a) (Vm.Alike.refl U.vm) q.2.1, q.2.2.1, q.2.2.2.1, q.2.2.2.2.1, va_X.moved (u := U) (U := U.calling g mk a) (Vm.Alike.refl U.vm) q.2.2.2.2.2.1, q.2.2.2.2.2.2.1, va_Nw.same (u := U) (U := U.calling g mk a) rfl rfl q.2.2.2.2.2.2.2⟩
section CR
variable {Γ : Gm} {R : Room} {cc : ByteArray} {nL : Nat} {own : String} {ret : Option FieldType} {post : Option Value → St → Prop} {mc ms : Nat} {G : Nat × Nat → Nat → List (Nat × Value) → List Value → St → Prop} {cs : Nat × Nat} {pc n : Nat} {ls : List (Nat × Value)} {st stk : List Value} {S : St}
theorem run_out {p : Program} {e : Env} {s : State} {m : MethodId} {args : Array Value} {below : List Frame} {meth : Method} {c : Code} {Q : State → Prop} {H : Heap} {locs : List Loc} {k w x y : Nat} {la : Array Slot} {postY : Option Value → St → Prop} {pc : Nat}
    (hr : va_Run p (gL Γ) e R s m args below meth c H locs k w x y (F0 m pc la stk) st (fun s oc t => (∃ (v : Option Value) (S' : St), oc = .returned v ∧ postY v S' ∧ WD Γ S' t) ∧ va_F (gF Γ) s t) (gF Γ)) (hS : va_S (gF Γ) s.heap H locs)
    (K : ∀ v S', postY v S' → ∀ (H : Heap) (locs : List Loc), va_P (gD Γ) classes (wl Γ S') H → va_D (gF Γ) (wl Γ S') → va_S (gF Γ) s.heap H locs → W p (gL Γ) e R s m args below meth c H locs (k + x) (w + y) Q (F0 m (pc + 3) la (v.toList ++ st))) : W p (gL Γ) e R s m args below meth c H locs k w Q (F0 m pc la stk) := by
  intro T hT X
  obtain ⟨v, st₀, t, T', L, h0, X', hL, e1, e2, ⟨⟨v', S', hv, hp, hW⟩, hF⟩, stp⟩ := hr T hT X
  cases hv
  obtain ⟨hz, hk⟩ := hF
  rw [h0] at hz hk
  obtain ⟨t2, a1, b1⟩ := K v S' hp T'.heap (locs ++ L) (by rw [e1]; exact hW.2.1) hW.2.2.1
    ⟨Nat.le_trans hS.1 (by rw [e1]; exact hz), fun q h1 h2 => by rw [e1, hk q (Nat.lt_of_lt_of_le h1 hS.1) h2]; exact hS.2.1 q h1 h2, fun q hq => by
      rcases List.mem_append.mp hq with h | h
      · exact hS.2.2 q h
      · exact hL q h⟩ T' rfl X'
  exact ⟨t2, stp t2 a1, b1⟩
theorem cVm (hG : IsG Γ R cc nL own ret post mc ms G) {idx na nY k i kk xc xs : Nat} {y : MethodName} {bts : ByteArray} {rY : Option FieldType} {As : List Value} {postY : Option Value → St → Prop} (hw : kwV own idx y bts nY rY na) (hd : Dc cc pc (.invokevirtual idx) 3 n) (hc : CT Γ y bts nY rY (rmx kk xc xs) (rf Γ k i :: As) S postY)
    (hk : k < 25) (hi : i < cnt k) (hcl : rcv k y.cls) (hs : stk = As.reverse ++ rf Γ k i :: st) (hna : As.length = na) (hR : kk + 1 ≤ R.frames ∧ 8 + (nY + 11) + 30 * kk ≤ R.locals) (hf : cs.1 + xc ≤ R.cells ∧ cs.2 + xs ≤ R.slots) (hst : (st.map fun v => v.category).sum ≤ 8)
    (K : ∀ v S', postY v S' → G (cs.1 + xc, cs.2 + xs) n ls (v.toList ++ st) S') : G cs pc ls stk S := by
  obtain ⟨p, e, s, m, args, below, meth, c, Q, hx, hb, hml, hown, hts, hK, hB, hX, hr, rfl⟩ := hG
  obtain ⟨hd, rfl⟩ := hd
  obtain ⟨w1, w2, w3, w4, w5, w6, w7⟩ := hw
  obtain ⟨ci, T, N, hc1, hc2⟩ := hcl
  obtain ⟨fs, hfs⟩ := hc2 Γ S i
  intro H locs la hP hD hS hl
  have cb : CallB R s args own idx y bts nY rY (.code y bts nY rY :: tg) (rmx kk xc xs) xc xs na := callB_of na hts (tg_goodIn w5) rfl rfl rfl (hts _ w4) (hts _ w1) ⟨w6.1, w6.2, w7⟩ hR
  have run := va_runV (e := e) (below := below) (meth := meth) (b := gA Γ (off k i)) (C := y.cls) (As := As) (rest := st) (g := F0 m pc la stk) (H := H) (locs := locs) (cells := cs.1) (slots := cs.2) ⟨hx, hb, hml, hown, hts⟩ hc ⟨cb, hts _ w2, hts _ w3⟩
    ⟨WD.blind, va_recv hK hP hc1 (by rw [wl_at Γ S hk hi, hfs]), fun U hU hW => ⟨rfl, WD.to hK hX hB hP hD hS hU hW⟩⟩ rfl hna hl.1 hs (lv_room hst) hd hf
  exact run_out run hS (fun v S' hp H' locs' hP' hD' hS' => K v S' hp H' locs' la hP' hD' hS' hl)
theorem cV (hG : IsG Γ R cc nL own ret post mc ms G) {idx na nY k i kk : Nat} {y : MethodName} {bts : ByteArray} {rY : Option FieldType} {As : List Value} {postY : Option Value → St → Prop} (hw : kwV own idx y bts nY rY na) (hd : Dc cc pc (.invokevirtual idx) 3 n) (hc : CT Γ y bts nY rY (rmx kk 0 0) (rf Γ k i :: As) S postY)
    (hk : k < 25) (hi : i < cnt k) (hcl : rcv k y.cls) (hs : stk = As.reverse ++ rf Γ k i :: st) (hna : As.length = na) (hR : kk + 1 ≤ R.frames ∧ 8 + (nY + 11) + 30 * kk ≤ R.locals) (hf : cs.1 ≤ R.cells ∧ cs.2 ≤ R.slots) (hst : (st.map fun v => v.category).sum ≤ 8)
    (K : ∀ v S', postY v S' → G cs n ls (v.toList ++ st) S') : G cs pc ls stk S :=
  cVm hG hw hd hc hk hi hcl hs hna hR hf hst K
theorem cSm (hG : IsG Γ R cc nL own ret post mc ms G) {idx na nY kk xc xs : Nat} {y : MethodName} {bts : ByteArray} {rY : Option FieldType} {As : List Value} {postY : Option Value → St → Prop} (hw : kwS own idx y bts nY rY na) (hd : Dc cc pc (.invokestatic idx) 3 n) (hc : CT Γ y bts nY rY (rmx kk xc xs) As S postY)
    (hs : stk = As.reverse ++ st) (hna : As.length = na) (hR : kk + 1 ≤ R.frames ∧ 8 + (nY + 11) + 30 * kk ≤ R.locals) (hf : cs.1 + xc ≤ R.cells ∧ cs.2 + xs ≤ R.slots) (hst : (st.map fun v => v.category).sum ≤ 8)
    (K : ∀ v S', postY v S' → G (cs.1 + xc, cs.2 + xs) n ls (v.toList ++ st) S') : G cs pc ls stk S := by
  obtain ⟨p, e, s, m, args, below, meth, c, Q, hx, hb, hml, hown, hts, hK, hB, hX, hr, rfl⟩ := hG
  obtain ⟨hd, rfl⟩ := hd
  obtain ⟨w1, w2, w4, w5, w6, w7⟩ := hw
  intro H locs la hP hD hS hl
  have cb : CallB R s args own idx y bts nY rY (.code y bts nY rY :: tg) (rmx kk xc xs) xc xs na := callB_of na hts (tg_goodIn w5) rfl rfl rfl (hts _ w4) (hts _ w1) ⟨w6.1, w6.2, w7⟩ hR
  have run := va_runS (e := e) (below := below) (meth := meth) (As := As) (rest := st) (g := F0 m pc la stk) (H := H) (locs := locs) (cells := cs.1) (slots := cs.2) ⟨hx, hb, hml, hown, hts⟩ hc ⟨cb, hts _ w2⟩
    ⟨WD.blind, fun U hU hW => ⟨rfl, WD.to hK hX hB hP hD hS hU hW⟩⟩ rfl hna hl.1 hs (lv_room hst) hd hf
  exact run_out run hS (fun v S' hp H' locs' hP' hD' hS' => K v S' hp H' locs' la hP' hD' hS' hl)
theorem cS (hG : IsG Γ R cc nL own ret post mc ms G) {idx na nY kk : Nat} {y : MethodName} {bts : ByteArray} {rY : Option FieldType} {As : List Value} {postY : Option Value → St → Prop} (hw : kwS own idx y bts nY rY na) (hd : Dc cc pc (.invokestatic idx) 3 n) (hc : CT Γ y bts nY rY (rmx kk 0 0) As S postY)
    (hs : stk = As.reverse ++ st) (hna : As.length = na) (hR : kk + 1 ≤ R.frames ∧ 8 + (nY + 11) + 30 * kk ≤ R.locals) (hf : cs.1 ≤ R.cells ∧ cs.2 ≤ R.slots) (hst : (st.map fun v => v.category).sum ≤ 8)
    (K : ∀ v S', postY v S' → G cs n ls (v.toList ++ st) S') : G cs pc ls stk S :=
  cSm hG hw hd hc hs hna hR hf hst K
theorem cN (hG : IsG Γ R cc nL own ret post mc ms G) {idx na nY kk : Nat} {host : String} {y : MethodName} {bts : ByteArray} {rY : Option FieldType} {As : List Value} {postY : Option Value → St → Prop} (hw : kwN own idx y host bts nY rY na) (hd : Dc cc pc (.invokestatic idx) 3 n) (hc : CT Γ y bts nY rY (rmx kk 0 0) As S postY)
    (hs : stk = As.reverse ++ st) (hna : As.length = na) (hR : kk + 1 ≤ R.frames ∧ 8 + (nY + 11) + 30 * kk ≤ R.locals) (hf : cs.1 ≤ R.cells ∧ cs.2 ≤ R.slots) (hst : (st.map fun v => v.category).sum ≤ 8)
    (K : ∀ v S', postY v S' → G cs n ls (v.toList ++ st) S') : G cs pc ls stk S := by
  obtain ⟨p, e, s, m, args, below, meth, c, Q, hx, hb, hml, hown, hts, hK, hB, hX, hr, rfl⟩ := hG
  obtain ⟨hd, rfl⟩ := hd
  obtain ⟨w1, w2, w4, w5, w6, w7⟩ := hw
  intro H locs la hP hD hS hl
  have hnl : va_Nw (.methodLinkNest own idx y host) s := w1 s hX.2
  have cb : va_CN R s args own idx y host bts nY rY (.code y bts nY rY :: tg) (rmx kk 0 0) 0 0 na := va_cnB na hts (tg_goodIn w5) rfl rfl rfl hnl (hts _ w4) ⟨w6.1, w6.2, w7⟩ hR
  have run := va_runSN (e := e) (below := below) (meth := meth) (As := As) (rest := st) (g := F0 m pc la stk) (H := H) (locs := locs) (cells := cs.1) (slots := cs.2) ⟨hx, hb, hml, hown, hts⟩ hc ⟨cb, hts _ w2, trivial⟩
    ⟨WD.blind, fun U hU hW => ⟨rfl, WD.to hK hX hB hP hD hS hU hW⟩⟩ rfl hna hl.1 hs (lv_room hst) hd hf
  exact run_out run hS (fun v S' hp H' locs' hP' hD' hS' => K v S' hp H' locs' la hP' hD' hS' hl)
theorem r_mmin (hG : IsG Γ R cc nL own ret post mc ms G) {idx : Nat} {a b : Int} (hlk : Cond.methodLink own idx Lib.Math.min.name ∈ tg) (hd : Dc cc pc (.invokestatic idx) 3 n) (hR : 1 ≤ R.frames ∧ (st.map fun v => v.category).sum + 13 ≤ R.locals) (hf : cs.1 ≤ R.cells ∧ cs.2 ≤ R.slots)
    (hr0 : (-2147483648 ≤ a ∧ a < 2147483648) ∧ (-2147483648 ≤ b ∧ b < 2147483648)) (K : G cs n ls (nt (min a b) :: st) S) : G cs pc ls (nt b :: nt a :: st) S := by
  obtain ⟨p, e, s, m, args, below, meth, c, Q, hx, hb, hml, hown, hts, hK, hB, hX, hr, rfl⟩ := hG
  obtain ⟨hd, rfl⟩ := hd
  intro H locs la hP hD hS hl
  refine va_mmin hx hb (hml.trans hl.1.symm) hown (hts _ hlk) (hts _ MM_min.1) (hts _ MM_ini) (hts _ MM_min.2) hR.1 hR.2 hf.1 hf.2 hd ?_
  have e2 : (if iI b < iI a then iI b else iI a) = iI (min a b) := by
    by_cases h : b < a
    · rw [if_pos ((iI_lt hr0.2 hr0.1).mpr h), Int.min_eq_right (by omega)]
    · rw [if_neg (fun q => h ((iI_lt hr0.2 hr0.1).mp q)), Int.min_eq_left (by omega)]
  rw [e2]
  exact K H locs la hP hD hS hl
theorem r_mmax (hG : IsG Γ R cc nL own ret post mc ms G) {idx : Nat} {a b : Int} (hlk : Cond.methodLink own idx Lib.Math.max.name ∈ tg) (hd : Dc cc pc (.invokestatic idx) 3 n) (hR : 1 ≤ R.frames ∧ (st.map fun v => v.category).sum + 13 ≤ R.locals) (hf : cs.1 ≤ R.cells ∧ cs.2 ≤ R.slots)
    (hr0 : (-2147483648 ≤ a ∧ a < 2147483648) ∧ (-2147483648 ≤ b ∧ b < 2147483648)) (K : G cs n ls (nt (max a b) :: st) S) : G cs pc ls (nt b :: nt a :: st) S := by
  obtain ⟨p, e, s, m, args, below, meth, c, Q, hx, hb, hml, hown, hts, hK, hB, hX, hr, rfl⟩ := hG
  obtain ⟨hd, rfl⟩ := hd
  intro H locs la hP hD hS hl
  refine va_mmax hx hb (hml.trans hl.1.symm) hown (hts _ hlk) (hts _ MM_max.1) (hts _ MM_ini) (hts _ MM_max.2) hR.1 hR.2 hf.1 hf.2 hd ?_
  have e2 : (if iI a < iI b then iI b else iI a) = iI (max a b) := by
    by_cases h : a < b
    · rw [if_pos ((iI_lt hr0.1 hr0.2).mpr h), Int.max_eq_right (by omega)]
    · rw [if_neg (fun q => h ((iI_lt hr0.1 hr0.2).mp q)), Int.max_eq_left (by omega)]
  rw [e2]
  exact K H locs la hP hD hS hl
theorem r_mabs (hG : IsG Γ R cc nL own ret post mc ms G) {idx : Nat} {a : Int} (hlk : Cond.methodLink own idx Lib.Math.abs.name ∈ tg) (hd : Dc cc pc (.invokestatic idx) 3 n) (hR : 1 ≤ R.frames ∧ (st.map fun v => v.category).sum + 13 ≤ R.locals) (hf : cs.1 ≤ R.cells ∧ cs.2 ≤ R.slots)
    (hr0 : -2147483648 ≤ a ∧ a < 2147483648) (K : G cs n ls (nt (if 0 ≤ a then a else -a) :: st) S) : G cs pc ls (nt a :: st) S := by
  obtain ⟨p, e, s, m, args, below, meth, c, Q, hx, hb, hml, hown, hts, hK, hB, hX, hr, rfl⟩ := hG
  obtain ⟨hd, rfl⟩ := hd
  intro H locs la hP hD hS hl
  refine va_mabs hx hb (hml.trans hl.1.symm) hown (hts _ hlk) (hts _ MM_abs.1) (hts _ MM_ini) (hts _ MM_abs.2) hR.1 hR.2 hf.1 hf.2 hd ?_
  have h0 : (0 : Int32) = iI 0 := rfl
  have e2 : (if (0 : Int32) ≤ iI a then iI a else 0 - iI a) = iI (if 0 ≤ a then a else -a) := by
    by_cases h : 0 ≤ a
    · rw [if_pos (by rw [h0]; exact (iI_le (by omega) hr0).mpr h), if_pos h]
    · rw [if_neg (fun q => h (by rw [h0] at q; exact (iI_le (by omega) hr0).mp q)), if_neg h, h0, ← iI_sub, Int.zero_sub]
  rw [e2]
  exact K H locs la hP hD hS hl

end CR
end
section
/-! made by wip/p28/gen/calls.py -/
section CR
variable {Γ : Gm} {R : Room} {cc : ByteArray} {nL : Nat} {own : String} {ret : Option FieldType} {post : Option Value → St → Prop} {mc ms : Nat} {G : Nat × Nat → Nat → List (Nat × Value) → List Value → St → Prop} {cs : Nat × Nat} {pc n : Nat} {ls : List (Nat × Value)} {st stk : List Value} {S : St}
theorem g_Trip_9 (hG : IsG Γ R cc nL "BinWard$Trip" ret post mc ms G) {i : Nat} (hi : i < 4) (hd : Dc cc pc (.getfield 9) 3 n) (K : G cs n ls (rf Γ 4 i :: st) S) : G cs pc ls (rf Γ 3 i :: st) S :=
  r_get hG hd (k := 3) (i := i) (j := 0) (by decide) hi rfl rfl i_Trip (by decide) rfl (m_T1 (i := 41) (by decide +kernel) (by decide +kernel)) rfl K
theorem g_Ward_396 (hG : IsG Γ R cc nL "BinWard" ret post mc ms G) {i : Nat} (hi : i < 4) (hd : Dc cc pc (.getfield 396) 3 n) (K : G cs n ls (rf Γ 4 i :: st) S) : G cs pc ls (rf Γ 3 i :: st) S :=
  r_get hG hd (k := 3) (i := i) (j := 0) (by decide) hi rfl rfl i_Trip (by decide) rfl (m_T1 (i := 42) (by decide +kernel) (by decide +kernel)) rfl K
theorem g_Trip_15 (hG : IsG Γ R cc nL "BinWard$Trip" ret post mc ms G) {i : Nat} (hi : i < 4) (hd : Dc cc pc (.getfield 15) 3 n) (K : G cs n ls (rf Γ 5 i :: st) S) : G cs pc ls (rf Γ 3 i :: st) S :=
  r_get hG hd (k := 3) (i := i) (j := 1) (by decide) hi rfl rfl i_Trip (by decide) rfl (m_T1 (i := 43) (by decide +kernel) (by decide +kernel)) rfl K
theorem g_Ward_397 (hG : IsG Γ R cc nL "BinWard" ret post mc ms G) {i : Nat} (hi : i < 4) (hd : Dc cc pc (.getfield 397) 3 n) (K : G cs n ls (rf Γ 5 i :: st) S) : G cs pc ls (rf Γ 3 i :: st) S :=
  r_get hG hd (k := 3) (i := i) (j := 1) (by decide) hi rfl rfl i_Trip (by decide) rfl (m_T1 (i := 44) (by decide +kernel) (by decide +kernel)) rfl K
theorem g_Trip_49 (hG : IsG Γ R cc nL "BinWard$Trip" ret post mc ms G) {i : Nat} (hi : i < 4) (hd : Dc cc pc (.getfield 49) 3 n) (K : G cs n ls (nt (S 30 i 0) :: st) S) : G cs pc ls (rf Γ 3 i :: st) S :=
  r_get hG hd (k := 3) (i := i) (j := 2) (by decide) hi rfl rfl i_Trip (by decide) rfl (m_T1 (i := 45) (by decide +kernel) (by decide +kernel)) rfl K
theorem p_Trip_49 (hG : IsG Γ R cc nL "BinWard$Trip" ret post mc ms G) {z : Int} {i : Nat} (hi : i < 4) (hd : Dc cc pc (.putfield 49) 3 n) (K : G cs n ls st (sU S 30 i 0 z)) : G cs pc ls (nt z :: rf Γ 3 i :: st) S :=
  r_put hG hd (k := 3) (i := i) (j := 2) (f := 30) (by decide) hi rfl rfl i_Trip t_Trip_ok n_Trip (by decide) rfl (m_T1 (i := 45) (by decide +kernel) (by decide +kernel)) rfl (by decide +kernel) (by show 2 < 6; decide) rfl (by decide) (cs_30 Γ S i z) K
theorem g_Lorry_35 (hG : IsG Γ R cc nL "BinWard$Lorry" ret post mc ms G) {i : Nat} (hi : i < 4) (hd : Dc cc pc (.getfield 35) 3 n) (K : G cs n ls (nt (S 30 i 0) :: st) S) : G cs pc ls (rf Γ 3 i :: st) S :=
  r_get hG hd (k := 3) (i := i) (j := 2) (by decide) hi rfl rfl i_Trip (by decide) rfl (m_T1 (i := 46) (by decide +kernel) (by decide +kernel)) rfl K
theorem p_Lorry_35 (hG : IsG Γ R cc nL "BinWard$Lorry" ret post mc ms G) {z : Int} {i : Nat} (hi : i < 4) (hd : Dc cc pc (.putfield 35) 3 n) (K : G cs n ls st (sU S 30 i 0 z)) : G cs pc ls (nt z :: rf Γ 3 i :: st) S :=
  r_put hG hd (k := 3) (i := i) (j := 2) (f := 30) (by decide) hi rfl rfl i_Trip t_Trip_ok n_Trip (by decide) rfl (m_T1 (i := 46) (by decide +kernel) (by decide +kernel)) rfl (by decide +kernel) (by show 2 < 6; decide) rfl (by decide) (cs_30 Γ S i z) K
theorem g_Trip_52 (hG : IsG Γ R cc nL "BinWard$Trip" ret post mc ms G) {i : Nat} (hi : i < 4) (hd : Dc cc pc (.getfield 52) 3 n) (K : G cs n ls (nt (S 31 i 0) :: st) S) : G cs pc ls (rf Γ 3 i :: st) S :=
  r_get hG hd (k := 3) (i := i) (j := 3) (by decide) hi rfl rfl i_Trip (by decide) rfl (m_T1 (i := 47) (by decide +kernel) (by decide +kernel)) rfl K
theorem p_Trip_52 (hG : IsG Γ R cc nL "BinWard$Trip" ret post mc ms G) {z : Int} {i : Nat} (hi : i < 4) (hd : Dc cc pc (.putfield 52) 3 n) (K : G cs n ls st (sU S 31 i 0 z)) : G cs pc ls (nt z :: rf Γ 3 i :: st) S :=
  r_put hG hd (k := 3) (i := i) (j := 3) (f := 31) (by decide) hi rfl rfl i_Trip t_Trip_ok n_Trip (by decide) rfl (m_T1 (i := 47) (by decide +kernel) (by decide +kernel)) rfl (by decide +kernel) (by show 3 < 6; decide) rfl (by decide) (cs_31 Γ S i z) K
theorem g_Lorry_41 (hG : IsG Γ R cc nL "BinWard$Lorry" ret post mc ms G) {i : Nat} (hi : i < 4) (hd : Dc cc pc (.getfield 41) 3 n) (K : G cs n ls (nt (S 31 i 0) :: st) S) : G cs pc ls (rf Γ 3 i :: st) S :=
  r_get hG hd (k := 3) (i := i) (j := 3) (by decide) hi rfl rfl i_Trip (by decide) rfl (m_T1 (i := 48) (by decide +kernel) (by decide +kernel)) rfl K
theorem p_Lorry_41 (hG : IsG Γ R cc nL "BinWard$Lorry" ret post mc ms G) {z : Int} {i : Nat} (hi : i < 4) (hd : Dc cc pc (.putfield 41) 3 n) (K : G cs n ls st (sU S 31 i 0 z)) : G cs pc ls (nt z :: rf Γ 3 i :: st) S :=
  r_put hG hd (k := 3) (i := i) (j := 3) (f := 31) (by decide) hi rfl rfl i_Trip t_Trip_ok n_Trip (by decide) rfl (m_T1 (i := 48) (by decide +kernel) (by decide +kernel)) rfl (by decide +kernel) (by show 3 < 6; decide) rfl (by decide) (cs_31 Γ S i z) K
theorem g_Ward_381 (hG : IsG Γ R cc nL "BinWard" ret post mc ms G) {i : Nat} (hi : i < 4) (hd : Dc cc pc (.getfield 381) 3 n) (K : G cs n ls (nt (S 31 i 0) :: st) S) : G cs pc ls (rf Γ 3 i :: st) S :=
  r_get hG hd (k := 3) (i := i) (j := 3) (by decide) hi rfl rfl i_Trip (by decide) rfl (m_T1 (i := 49) (by decide +kernel) (by decide +kernel)) rfl K
theorem p_Ward_381 (hG : IsG Γ R cc nL "BinWard" ret post mc ms G) {z : Int} {i : Nat} (hi : i < 4) (hd : Dc cc pc (.putfield 381) 3 n) (K : G cs n ls st (sU S 31 i 0 z)) : G cs pc ls (nt z :: rf Γ 3 i :: st) S :=
  r_put hG hd (k := 3) (i := i) (j := 3) (f := 31) (by decide) hi rfl rfl i_Trip t_Trip_ok n_Trip (by decide) rfl (m_T1 (i := 49) (by decide +kernel) (by decide +kernel)) rfl (by decide +kernel) (by show 3 < 6; decide) rfl (by decide) (cs_31 Γ S i z) K
theorem g_Trip_55 (hG : IsG Γ R cc nL "BinWard$Trip" ret post mc ms G) {i : Nat} (hi : i < 4) (hd : Dc cc pc (.getfield 55) 3 n) (K : G cs n ls (nt (S 32 i 0) :: st) S) : G cs pc ls (rf Γ 3 i :: st) S :=
  r_get hG hd (k := 3) (i := i) (j := 4) (by decide) hi rfl rfl i_Trip (by decide) rfl (m_T1 (i := 50) (by decide +kernel) (by decide +kernel)) rfl K
theorem p_Trip_55 (hG : IsG Γ R cc nL "BinWard$Trip" ret post mc ms G) {z : Int} {i : Nat} (hi : i < 4) (hd : Dc cc pc (.putfield 55) 3 n) (K : G cs n ls st (sU S 32 i 0 z)) : G cs pc ls (nt z :: rf Γ 3 i :: st) S :=
  r_put hG hd (k := 3) (i := i) (j := 4) (f := 32) (by decide) hi rfl rfl i_Trip t_Trip_ok n_Trip (by decide) rfl (m_T1 (i := 50) (by decide +kernel) (by decide +kernel)) rfl (by decide +kernel) (by show 4 < 6; decide) rfl (by decide) (cs_32 Γ S i z) K
theorem g_Lorry_47 (hG : IsG Γ R cc nL "BinWard$Lorry" ret post mc ms G) {i : Nat} (hi : i < 4) (hd : Dc cc pc (.getfield 47) 3 n) (K : G cs n ls (nt (S 32 i 0) :: st) S) : G cs pc ls (rf Γ 3 i :: st) S :=
  r_get hG hd (k := 3) (i := i) (j := 4) (by decide) hi rfl rfl i_Trip (by decide) rfl (m_T1 (i := 51) (by decide +kernel) (by decide +kernel)) rfl K
theorem p_Lorry_47 (hG : IsG Γ R cc nL "BinWard$Lorry" ret post mc ms G) {z : Int} {i : Nat} (hi : i < 4) (hd : Dc cc pc (.putfield 47) 3 n) (K : G cs n ls st (sU S 32 i 0 z)) : G cs pc ls (nt z :: rf Γ 3 i :: st) S :=
  r_put hG hd (k := 3) (i := i) (j := 4) (f := 32) (by decide) hi rfl rfl i_Trip t_Trip_ok n_Trip (by decide) rfl (m_T1 (i := 51) (by decide +kernel) (by decide +kernel)) rfl (by decide +kernel) (by show 4 < 6; decide) rfl (by decide) (cs_32 Γ S i z) K
theorem g_Trip_58 (hG : IsG Γ R cc nL "BinWard$Trip" ret post mc ms G) {i : Nat} (hi : i < 4) (hd : Dc cc pc (.getfield 58) 3 n) (K : G cs n ls (nt (S 33 i 0) :: st) S) : G cs pc ls (rf Γ 3 i :: st) S :=
  r_get hG hd (k := 3) (i := i) (j := 5) (by decide) hi rfl rfl i_Trip (by decide) rfl (m_T1 (i := 52) (by decide +kernel) (by decide +kernel)) rfl K
theorem p_Trip_58 (hG : IsG Γ R cc nL "BinWard$Trip" ret post mc ms G) {z : Int} {i : Nat} (hi : i < 4) (hd : Dc cc pc (.putfield 58) 3 n) (K : G cs n ls st (sU S 33 i 0 z)) : G cs pc ls (nt z :: rf Γ 3 i :: st) S :=
  r_put hG hd (k := 3) (i := i) (j := 5) (f := 33) (by decide) hi rfl rfl i_Trip t_Trip_ok n_Trip (by decide) rfl (m_T1 (i := 52) (by decide +kernel) (by decide +kernel)) rfl (by decide +kernel) (by show 5 < 6; decide) rfl (by decide) (cs_33 Γ S i z) K
theorem g_Lorry_34 (hG : IsG Γ R cc nL "BinWard$Lorry" ret post mc ms G) {i : Nat} (hi : i < 4) (hd : Dc cc pc (.getfield 34) 3 n) (K : G cs n ls (nt (S 33 i 0) :: st) S) : G cs pc ls (rf Γ 3 i :: st) S :=
  r_get hG hd (k := 3) (i := i) (j := 5) (by decide) hi rfl rfl i_Trip (by decide) rfl (m_T1 (i := 53) (by decide +kernel) (by decide +kernel)) rfl K
theorem p_Lorry_34 (hG : IsG Γ R cc nL "BinWard$Lorry" ret post mc ms G) {z : Int} {i : Nat} (hi : i < 4) (hd : Dc cc pc (.putfield 34) 3 n) (K : G cs n ls st (sU S 33 i 0 z)) : G cs pc ls (nt z :: rf Γ 3 i :: st) S :=
  r_put hG hd (k := 3) (i := i) (j := 5) (f := 33) (by decide) hi rfl rfl i_Trip t_Trip_ok n_Trip (by decide) rfl (m_T1 (i := 53) (by decide +kernel) (by decide +kernel)) rfl (by decide +kernel) (by show 5 < 6; decide) rfl (by decide) (cs_33 Γ S i z) K
theorem g_Ward_380 (hG : IsG Γ R cc nL "BinWard" ret post mc ms G) {i : Nat} (hi : i < 4) (hd : Dc cc pc (.getfield 380) 3 n) (K : G cs n ls (nt (S 33 i 0) :: st) S) : G cs pc ls (rf Γ 3 i :: st) S :=
  r_get hG hd (k := 3) (i := i) (j := 5) (by decide) hi rfl rfl i_Trip (by decide) rfl (m_T1 (i := 54) (by decide +kernel) (by decide +kernel)) rfl K
theorem p_Ward_380 (hG : IsG Γ R cc nL "BinWard" ret post mc ms G) {z : Int} {i : Nat} (hi : i < 4) (hd : Dc cc pc (.putfield 380) 3 n) (K : G cs n ls st (sU S 33 i 0 z)) : G cs pc ls (nt z :: rf Γ 3 i :: st) S :=
  r_put hG hd (k := 3) (i := i) (j := 5) (f := 33) (by decide) hi rfl rfl i_Trip t_Trip_ok n_Trip (by decide) rfl (m_T1 (i := 54) (by decide +kernel) (by decide +kernel)) rfl (by decide +kernel) (by show 5 < 6; decide) rfl (by decide) (cs_33 Γ S i z) K
theorem g_Search_9 (hG : IsG Γ R cc nL "BinWard$Search" ret post mc ms G) (hd : Dc cc pc (.getfield 9) 3 n) (K : G cs n ls (nt (S 40 0 0) :: st) S) : G cs pc ls (rf Γ 6 0 :: st) S :=
  r_get hG hd (k := 6) (i := 0) (j := 0) (by decide) (by decide) rfl rfl i_Search (by decide) rfl (m_T1 (i := 75) (by decide +kernel) (by decide +kernel)) rfl K
theorem p_Search_9 (hG : IsG Γ R cc nL "BinWard$Search" ret post mc ms G) {z : Int} (hd : Dc cc pc (.putfield 9) 3 n) (K : G cs n ls st (sU S 40 0 0 z)) : G cs pc ls (nt z :: rf Γ 6 0 :: st) S :=
  r_put hG hd (k := 6) (i := 0) (j := 0) (f := 40) (by decide) (by decide) rfl rfl i_Search t_Search_ok n_Search (by decide) rfl (m_T1 (i := 75) (by decide +kernel) (by decide +kernel)) rfl (by decide +kernel) (by show 0 < 3; decide) rfl (by decide) (cs_40 Γ S 0 z) K
theorem g_Ward_296 (hG : IsG Γ R cc nL "BinWard" ret post mc ms G) (hd : Dc cc pc (.getfield 296) 3 n) (K : G cs n ls (nt (S 40 0 0) :: st) S) : G cs pc ls (rf Γ 6 0 :: st) S :=
  r_get hG hd (k := 6) (i := 0) (j := 0) (by decide) (by decide) rfl rfl i_Search (by decide) rfl (m_T1 (i := 76) (by decide +kernel) (by decide +kernel)) rfl K
theorem p_Ward_296 (hG : IsG Γ R cc nL "BinWard" ret post mc ms G) {z : Int} (hd : Dc cc pc (.putfield 296) 3 n) (K : G cs n ls st (sU S 40 0 0 z)) : G cs pc ls (nt z :: rf Γ 6 0 :: st) S :=
  r_put hG hd (k := 6) (i := 0) (j := 0) (f := 40) (by decide) (by decide) rfl rfl i_Search t_Search_ok n_Search (by decide) rfl (m_T1 (i := 76) (by decide +kernel) (by decide +kernel)) rfl (by decide +kernel) (by show 0 < 3; decide) rfl (by decide) (cs_40 Γ S 0 z) K
theorem g_Search_15 (hG : IsG Γ R cc nL "BinWard$Search" ret post mc ms G) (hd : Dc cc pc (.getfield 15) 3 n) (K : G cs n ls (nt (S 41 0 0) :: st) S) : G cs pc ls (rf Γ 6 0 :: st) S :=
  r_get hG hd (k := 6) (i := 0) (j := 1) (by decide) (by decide) rfl rfl i_Search (by decide) rfl (m_T1 (i := 77) (by decide +kernel) (by decide +kernel)) rfl K
theorem p_Search_15 (hG : IsG Γ R cc nL "BinWard$Search" ret post mc ms G) {z : Int} (hd : Dc cc pc (.putfield 15) 3 n) (K : G cs n ls st (sU S 41 0 0 z)) : G cs pc ls (nt z :: rf Γ 6 0 :: st) S :=
  r_put hG hd (k := 6) (i := 0) (j := 1) (f := 41) (by decide) (by decide) rfl rfl i_Search t_Search_ok n_Search (by decide) rfl (m_T1 (i := 77) (by decide +kernel) (by decide +kernel)) rfl (by decide +kernel) (by show 1 < 3; decide) rfl (by decide) (cs_41 Γ S 0 z) K
theorem g_Ward_299 (hG : IsG Γ R cc nL "BinWard" ret post mc ms G) (hd : Dc cc pc (.getfield 299) 3 n) (K : G cs n ls (nt (S 41 0 0) :: st) S) : G cs pc ls (rf Γ 6 0 :: st) S :=
  r_get hG hd (k := 6) (i := 0) (j := 1) (by decide) (by decide) rfl rfl i_Search (by decide) rfl (m_T1 (i := 78) (by decide +kernel) (by decide +kernel)) rfl K
theorem p_Ward_299 (hG : IsG Γ R cc nL "BinWard" ret post mc ms G) {z : Int} (hd : Dc cc pc (.putfield 299) 3 n) (K : G cs n ls st (sU S 41 0 0 z)) : G cs pc ls (nt z :: rf Γ 6 0 :: st) S :=
  r_put hG hd (k := 6) (i := 0) (j := 1) (f := 41) (by decide) (by decide) rfl rfl i_Search t_Search_ok n_Search (by decide) rfl (m_T1 (i := 78) (by decide +kernel) (by decide +kernel)) rfl (by decide +kernel) (by show 1 < 3; decide) rfl (by decide) (cs_41 Γ S 0 z) K
theorem g_Search_18 (hG : IsG Γ R cc nL "BinWard$Search" ret post mc ms G) (hd : Dc cc pc (.getfield 18) 3 n) (K : G cs n ls (nt (S 42 0 0) :: st) S) : G cs pc ls (rf Γ 6 0 :: st) S :=
  r_get hG hd (k := 6) (i := 0) (j := 2) (by decide) (by decide) rfl rfl i_Search (by decide) rfl (m_T1 (i := 79) (by decide +kernel) (by decide +kernel)) rfl K
theorem p_Search_18 (hG : IsG Γ R cc nL "BinWard$Search" ret post mc ms G) {z : Int} (hd : Dc cc pc (.putfield 18) 3 n) (K : G cs n ls st (sU S 42 0 0 z)) : G cs pc ls (nt z :: rf Γ 6 0 :: st) S :=
  r_put hG hd (k := 6) (i := 0) (j := 2) (f := 42) (by decide) (by decide) rfl rfl i_Search t_Search_ok n_Search (by decide) rfl (m_T1 (i := 79) (by decide +kernel) (by decide +kernel)) rfl (by decide +kernel) (by show 2 < 3; decide) rfl (by decide) (cs_42 Γ S 0 z) K
theorem g_Diary_9 (hG : IsG Γ R cc nL "BinWard$Diary" ret post mc ms G) (hd : Dc cc pc (.getfield 9) 3 n) (K : G cs n ls (.ref (S 81 0 0).toNat :: st) S) : G cs pc ls (rf Γ 7 0 :: st) S :=
  r_get hG hd (k := 7) (i := 0) (j := 0) (by decide) (by decide) rfl rfl i_Diary (by decide) rfl (m_T1 (i := 93) (by decide +kernel) (by decide +kernel)) rfl K
theorem g_Line_7 (hG : IsG Γ R cc nL "BinWard$Line" ret post mc ms G) (hd : Dc cc pc (.getfield 7) 3 n) (K : G cs n ls (nt (S 45 0 0) :: st) S) : G cs pc ls (rf Γ 8 0 :: st) S :=
  r_get hG hd (k := 8) (i := 0) (j := 0) (by decide) (by decide) rfl rfl i_Line (by decide) rfl (m_T1 (i := 103) (by decide +kernel) (by decide +kernel)) rfl K
theorem p_Line_7 (hG : IsG Γ R cc nL "BinWard$Line" ret post mc ms G) {z : Int} (hd : Dc cc pc (.putfield 7) 3 n) (K : G cs n ls st (sU S 45 0 0 z)) : G cs pc ls (nt z :: rf Γ 8 0 :: st) S :=
  r_put hG hd (k := 8) (i := 0) (j := 0) (f := 45) (by decide) (by decide) rfl rfl i_Line t_Line_ok n_Line (by decide) rfl (m_T1 (i := 103) (by decide +kernel) (by decide +kernel)) rfl (by decide +kernel) (by show 0 < 3; decide) rfl (by decide) (cs_45 Γ S 0 z) K
theorem g_Ward_142 (hG : IsG Γ R cc nL "BinWard" ret post mc ms G) (hd : Dc cc pc (.getfield 142) 3 n) (K : G cs n ls (nt (S 45 0 0) :: st) S) : G cs pc ls (rf Γ 8 0 :: st) S :=
  r_get hG hd (k := 8) (i := 0) (j := 0) (by decide) (by decide) rfl rfl i_Line (by decide) rfl (m_T1 (i := 104) (by decide +kernel) (by decide +kernel)) rfl K
theorem p_Ward_142 (hG : IsG Γ R cc nL "BinWard" ret post mc ms G) {z : Int} (hd : Dc cc pc (.putfield 142) 3 n) (K : G cs n ls st (sU S 45 0 0 z)) : G cs pc ls (nt z :: rf Γ 8 0 :: st) S :=
  r_put hG hd (k := 8) (i := 0) (j := 0) (f := 45) (by decide) (by decide) rfl rfl i_Line t_Line_ok n_Line (by decide) rfl (m_T1 (i := 104) (by decide +kernel) (by decide +kernel)) rfl (by decide +kernel) (by show 0 < 3; decide) rfl (by decide) (cs_45 Γ S 0 z) K
theorem g_Line_13 (hG : IsG Γ R cc nL "BinWard$Line" ret post mc ms G) (hd : Dc cc pc (.getfield 13) 3 n) (K : G cs n ls (nt (S 46 0 0) :: st) S) : G cs pc ls (rf Γ 8 0 :: st) S :=
  r_get hG hd (k := 8) (i := 0) (j := 1) (by decide) (by decide) rfl rfl i_Line (by decide) rfl (m_T1 (i := 105) (by decide +kernel) (by decide +kernel)) rfl K
theorem p_Line_13 (hG : IsG Γ R cc nL "BinWard$Line" ret post mc ms G) {z : Int} (hd : Dc cc pc (.putfield 13) 3 n) (K : G cs n ls st (sU S 46 0 0 z)) : G cs pc ls (nt z :: rf Γ 8 0 :: st) S :=
  r_put hG hd (k := 8) (i := 0) (j := 1) (f := 46) (by decide) (by decide) rfl rfl i_Line t_Line_ok n_Line (by decide) rfl (m_T1 (i := 105) (by decide +kernel) (by decide +kernel)) rfl (by decide +kernel) (by show 1 < 3; decide) rfl (by decide) (cs_46 Γ S 0 z) K
theorem g_Ward_145 (hG : IsG Γ R cc nL "BinWard" ret post mc ms G) (hd : Dc cc pc (.getfield 145) 3 n) (K : G cs n ls (nt (S 46 0 0) :: st) S) : G cs pc ls (rf Γ 8 0 :: st) S :=
  r_get hG hd (k := 8) (i := 0) (j := 1) (by decide) (by decide) rfl rfl i_Line (by decide) rfl (m_T1 (i := 106) (by decide +kernel) (by decide +kernel)) rfl K
theorem p_Ward_145 (hG : IsG Γ R cc nL "BinWard" ret post mc ms G) {z : Int} (hd : Dc cc pc (.putfield 145) 3 n) (K : G cs n ls st (sU S 46 0 0 z)) : G cs pc ls (nt z :: rf Γ 8 0 :: st) S :=
  r_put hG hd (k := 8) (i := 0) (j := 1) (f := 46) (by decide) (by decide) rfl rfl i_Line t_Line_ok n_Line (by decide) rfl (m_T1 (i := 106) (by decide +kernel) (by decide +kernel)) rfl (by decide +kernel) (by show 1 < 3; decide) rfl (by decide) (cs_46 Γ S 0 z) K
theorem g_Line_16 (hG : IsG Γ R cc nL "BinWard$Line" ret post mc ms G) (hd : Dc cc pc (.getfield 16) 3 n) (K : G cs n ls (nt (S 47 0 0) :: st) S) : G cs pc ls (rf Γ 8 0 :: st) S :=
  r_get hG hd (k := 8) (i := 0) (j := 2) (by decide) (by decide) rfl rfl i_Line (by decide) rfl (m_T1 (i := 107) (by decide +kernel) (by decide +kernel)) rfl K
theorem p_Line_16 (hG : IsG Γ R cc nL "BinWard$Line" ret post mc ms G) {z : Int} (hd : Dc cc pc (.putfield 16) 3 n) (K : G cs n ls st (sU S 47 0 0 z)) : G cs pc ls (nt z :: rf Γ 8 0 :: st) S :=
  r_put hG hd (k := 8) (i := 0) (j := 2) (f := 47) (by decide) (by decide) rfl rfl i_Line t_Line_ok n_Line (by decide) rfl (m_T1 (i := 107) (by decide +kernel) (by decide +kernel)) rfl (by decide +kernel) (by show 2 < 3; decide) rfl (by decide) (cs_47 Γ S 0 z) K
theorem g_Baler_33 (hG : IsG Γ R cc nL "BinWard$Baler" ret post mc ms G) {i : Nat} (hi : i < 20) (hd : Dc cc pc (.getfield 33) 3 n) (K : G cs n ls (nt (S 55 i 0) :: st) S) : G cs pc ls (rf Γ 11 i :: st) S :=
  r_get hG hd (k := 11) (i := i) (j := 0) (by decide) hi rfl rfl i_Bale (by decide) rfl (m_T1 (i := 128) (by decide +kernel) (by decide +kernel)) rfl K
theorem p_Baler_33 (hG : IsG Γ R cc nL "BinWard$Baler" ret post mc ms G) {z : Int} {i : Nat} (hi : i < 20) (hd : Dc cc pc (.putfield 33) 3 n) (K : G cs n ls st (sU S 55 i 0 z)) : G cs pc ls (nt z :: rf Γ 11 i :: st) S :=
  r_put hG hd (k := 11) (i := i) (j := 0) (f := 55) (by decide) hi rfl rfl i_Bale t_Bale_ok n_Bale (by decide) rfl (m_T1 (i := 128) (by decide +kernel) (by decide +kernel)) rfl (by decide +kernel) (by show 0 < 4; decide) rfl (by decide) (cs_55 Γ S i z) K
theorem g_Ward_231 (hG : IsG Γ R cc nL "BinWard" ret post mc ms G) {i : Nat} (hi : i < 20) (hd : Dc cc pc (.getfield 231) 3 n) (K : G cs n ls (nt (S 55 i 0) :: st) S) : G cs pc ls (rf Γ 11 i :: st) S :=
  r_get hG hd (k := 11) (i := i) (j := 0) (by decide) hi rfl rfl i_Bale (by decide) rfl (m_T1 (i := 129) (by decide +kernel) (by decide +kernel)) rfl K
theorem p_Ward_231 (hG : IsG Γ R cc nL "BinWard" ret post mc ms G) {z : Int} {i : Nat} (hi : i < 20) (hd : Dc cc pc (.putfield 231) 3 n) (K : G cs n ls st (sU S 55 i 0 z)) : G cs pc ls (nt z :: rf Γ 11 i :: st) S :=
  r_put hG hd (k := 11) (i := i) (j := 0) (f := 55) (by decide) hi rfl rfl i_Bale t_Bale_ok n_Bale (by decide) rfl (m_T1 (i := 129) (by decide +kernel) (by decide +kernel)) rfl (by decide +kernel) (by show 0 < 4; decide) rfl (by decide) (cs_55 Γ S i z) K
theorem g_Baler_32 (hG : IsG Γ R cc nL "BinWard$Baler" ret post mc ms G) {i : Nat} (hi : i < 20) (hd : Dc cc pc (.getfield 32) 3 n) (K : G cs n ls (nt (S 56 i 0) :: st) S) : G cs pc ls (rf Γ 11 i :: st) S :=
  r_get hG hd (k := 11) (i := i) (j := 1) (by decide) hi rfl rfl i_Bale (by decide) rfl (m_T1 (i := 130) (by decide +kernel) (by decide +kernel)) rfl K
theorem p_Baler_32 (hG : IsG Γ R cc nL "BinWard$Baler" ret post mc ms G) {z : Int} {i : Nat} (hi : i < 20) (hd : Dc cc pc (.putfield 32) 3 n) (K : G cs n ls st (sU S 56 i 0 z)) : G cs pc ls (nt z :: rf Γ 11 i :: st) S :=
  r_put hG hd (k := 11) (i := i) (j := 1) (f := 56) (by decide) hi rfl rfl i_Bale t_Bale_ok n_Bale (by decide) rfl (m_T1 (i := 130) (by decide +kernel) (by decide +kernel)) rfl (by decide +kernel) (by show 1 < 4; decide) rfl (by decide) (cs_56 Γ S i z) K
theorem g_Ward_166 (hG : IsG Γ R cc nL "BinWard" ret post mc ms G) {i : Nat} (hi : i < 20) (hd : Dc cc pc (.getfield 166) 3 n) (K : G cs n ls (nt (S 56 i 0) :: st) S) : G cs pc ls (rf Γ 11 i :: st) S :=
  r_get hG hd (k := 11) (i := i) (j := 1) (by decide) hi rfl rfl i_Bale (by decide) rfl (m_T1 (i := 131) (by decide +kernel) (by decide +kernel)) rfl K
theorem p_Ward_166 (hG : IsG Γ R cc nL "BinWard" ret post mc ms G) {z : Int} {i : Nat} (hi : i < 20) (hd : Dc cc pc (.putfield 166) 3 n) (K : G cs n ls st (sU S 56 i 0 z)) : G cs pc ls (nt z :: rf Γ 11 i :: st) S :=
  r_put hG hd (k := 11) (i := i) (j := 1) (f := 56) (by decide) hi rfl rfl i_Bale t_Bale_ok n_Bale (by decide) rfl (m_T1 (i := 131) (by decide +kernel) (by decide +kernel)) rfl (by decide +kernel) (by show 1 < 4; decide) rfl (by decide) (cs_56 Γ S i z) K
theorem g_Bale_9 (hG : IsG Γ R cc nL "BinWard$Bale" ret post mc ms G) {i : Nat} (hi : i < 20) (hd : Dc cc pc (.getfield 9) 3 n) (K : G cs n ls (nt (S 57 i 0) :: st) S) : G cs pc ls (rf Γ 11 i :: st) S :=
  r_get hG hd (k := 11) (i := i) (j := 2) (by decide) hi rfl rfl i_Bale (by decide) rfl (m_T1 (i := 132) (by decide +kernel) (by decide +kernel)) rfl K
theorem p_Bale_9 (hG : IsG Γ R cc nL "BinWard$Bale" ret post mc ms G) {z : Int} {i : Nat} (hi : i < 20) (hd : Dc cc pc (.putfield 9) 3 n) (K : G cs n ls st (sU S 57 i 0 z)) : G cs pc ls (nt z :: rf Γ 11 i :: st) S :=
  r_put hG hd (k := 11) (i := i) (j := 2) (f := 57) (by decide) hi rfl rfl i_Bale t_Bale_ok n_Bale (by decide) rfl (m_T1 (i := 132) (by decide +kernel) (by decide +kernel)) rfl (by decide +kernel) (by show 2 < 4; decide) rfl (by decide) (cs_57 Γ S i z) K
theorem g_Baler_37 (hG : IsG Γ R cc nL "BinWard$Baler" ret post mc ms G) {i : Nat} (hi : i < 20) (hd : Dc cc pc (.getfield 37) 3 n) (K : G cs n ls (nt (S 57 i 0) :: st) S) : G cs pc ls (rf Γ 11 i :: st) S :=
  r_get hG hd (k := 11) (i := i) (j := 2) (by decide) hi rfl rfl i_Bale (by decide) rfl (m_T1 (i := 133) (by decide +kernel) (by decide +kernel)) rfl K
theorem p_Baler_37 (hG : IsG Γ R cc nL "BinWard$Baler" ret post mc ms G) {z : Int} {i : Nat} (hi : i < 20) (hd : Dc cc pc (.putfield 37) 3 n) (K : G cs n ls st (sU S 57 i 0 z)) : G cs pc ls (nt z :: rf Γ 11 i :: st) S :=
  r_put hG hd (k := 11) (i := i) (j := 2) (f := 57) (by decide) hi rfl rfl i_Bale t_Bale_ok n_Bale (by decide) rfl (m_T1 (i := 133) (by decide +kernel) (by decide +kernel)) rfl (by decide +kernel) (by show 2 < 4; decide) rfl (by decide) (cs_57 Γ S i z) K
theorem g_Ward_159 (hG : IsG Γ R cc nL "BinWard" ret post mc ms G) {i : Nat} (hi : i < 20) (hd : Dc cc pc (.getfield 159) 3 n) (K : G cs n ls (nt (S 57 i 0) :: st) S) : G cs pc ls (rf Γ 11 i :: st) S :=
  r_get hG hd (k := 11) (i := i) (j := 2) (by decide) hi rfl rfl i_Bale (by decide) rfl (m_T1 (i := 134) (by decide +kernel) (by decide +kernel)) rfl K
theorem p_Ward_159 (hG : IsG Γ R cc nL "BinWard" ret post mc ms G) {z : Int} {i : Nat} (hi : i < 20) (hd : Dc cc pc (.putfield 159) 3 n) (K : G cs n ls st (sU S 57 i 0 z)) : G cs pc ls (nt z :: rf Γ 11 i :: st) S :=
  r_put hG hd (k := 11) (i := i) (j := 2) (f := 57) (by decide) hi rfl rfl i_Bale t_Bale_ok n_Bale (by decide) rfl (m_T1 (i := 134) (by decide +kernel) (by decide +kernel)) rfl (by decide +kernel) (by show 2 < 4; decide) rfl (by decide) (cs_57 Γ S i z) K
theorem g_Baler_34 (hG : IsG Γ R cc nL "BinWard$Baler" ret post mc ms G) {i : Nat} (hi : i < 20) (hd : Dc cc pc (.getfield 34) 3 n) (K : G cs n ls (nt (S 58 i 0) :: st) S) : G cs pc ls (rf Γ 11 i :: st) S :=
  r_get hG hd (k := 11) (i := i) (j := 3) (by decide) hi rfl rfl i_Bale (by decide) rfl (m_T1 (i := 135) (by decide +kernel) (by decide +kernel)) rfl K
theorem p_Baler_34 (hG : IsG Γ R cc nL "BinWard$Baler" ret post mc ms G) {z : Int} {i : Nat} (hi : i < 20) (hd : Dc cc pc (.putfield 34) 3 n) (K : G cs n ls st (sU S 58 i 0 z)) : G cs pc ls (nt z :: rf Γ 11 i :: st) S :=
  r_put hG hd (k := 11) (i := i) (j := 3) (f := 58) (by decide) hi rfl rfl i_Bale t_Bale_ok n_Bale (by decide) rfl (m_T1 (i := 135) (by decide +kernel) (by decide +kernel)) rfl (by decide +kernel) (by show 3 < 4; decide) rfl (by decide) (cs_58 Γ S i z) K
theorem g_Ward_233 (hG : IsG Γ R cc nL "BinWard" ret post mc ms G) {i : Nat} (hi : i < 20) (hd : Dc cc pc (.getfield 233) 3 n) (K : G cs n ls (nt (S 58 i 0) :: st) S) : G cs pc ls (rf Γ 11 i :: st) S :=
  r_get hG hd (k := 11) (i := i) (j := 3) (by decide) hi rfl rfl i_Bale (by decide) rfl (m_T1 (i := 136) (by decide +kernel) (by decide +kernel)) rfl K
theorem p_Ward_233 (hG : IsG Γ R cc nL "BinWard" ret post mc ms G) {z : Int} {i : Nat} (hi : i < 20) (hd : Dc cc pc (.putfield 233) 3 n) (K : G cs n ls st (sU S 58 i 0 z)) : G cs pc ls (nt z :: rf Γ 11 i :: st) S :=
  r_put hG hd (k := 11) (i := i) (j := 3) (f := 58) (by decide) hi rfl rfl i_Bale t_Bale_ok n_Bale (by decide) rfl (m_T1 (i := 136) (by decide +kernel) (by decide +kernel)) rfl (by decide +kernel) (by show 3 < 4; decide) rfl (by decide) (cs_58 Γ S i z) K
theorem g_Baler_18 (hG : IsG Γ R cc nL "BinWard$Baler" ret post mc ms G) (hd : Dc cc pc (.getfield 18) 3 n) (K : G cs n ls (nt (S 50 0 0) :: st) S) : G cs pc ls (rf Γ 9 0 :: st) S :=
  r_get hG hd (k := 9) (i := 0) (j := 0) (by decide) (by decide) rfl rfl i_Baler (by decide) rfl (m_T1 (i := 146) (by decide +kernel) (by decide +kernel)) rfl K
theorem p_Baler_18 (hG : IsG Γ R cc nL "BinWard$Baler" ret post mc ms G) {z : Int} (hd : Dc cc pc (.putfield 18) 3 n) (K : G cs n ls st (sU S 50 0 0 z)) : G cs pc ls (nt z :: rf Γ 9 0 :: st) S :=
  r_put hG hd (k := 9) (i := 0) (j := 0) (f := 50) (by decide) (by decide) rfl rfl i_Baler t_Baler_ok n_Baler (by decide) rfl (m_T1 (i := 146) (by decide +kernel) (by decide +kernel)) rfl (by decide +kernel) (by show 0 < 4; decide) rfl (by decide) (cs_50 Γ S 0 z) K
theorem g_Line_25 (hG : IsG Γ R cc nL "BinWard$Line" ret post mc ms G) (hd : Dc cc pc (.getfield 25) 3 n) (K : G cs n ls (nt (S 50 0 0) :: st) S) : G cs pc ls (rf Γ 9 0 :: st) S :=
  r_get hG hd (k := 9) (i := 0) (j := 0) (by decide) (by decide) rfl rfl i_Baler (by decide) rfl (m_T1 (i := 147) (by decide +kernel) (by decide +kernel)) rfl K
theorem p_Line_25 (hG : IsG Γ R cc nL "BinWard$Line" ret post mc ms G) {z : Int} (hd : Dc cc pc (.putfield 25) 3 n) (K : G cs n ls st (sU S 50 0 0 z)) : G cs pc ls (nt z :: rf Γ 9 0 :: st) S :=
  r_put hG hd (k := 9) (i := 0) (j := 0) (f := 50) (by decide) (by decide) rfl rfl i_Baler t_Baler_ok n_Baler (by decide) rfl (m_T1 (i := 147) (by decide +kernel) (by decide +kernel)) rfl (by decide +kernel) (by show 0 < 4; decide) rfl (by decide) (cs_50 Γ S 0 z) K
theorem g_Ward_236 (hG : IsG Γ R cc nL "BinWard" ret post mc ms G) (hd : Dc cc pc (.getfield 236) 3 n) (K : G cs n ls (nt (S 50 0 0) :: st) S) : G cs pc ls (rf Γ 9 0 :: st) S :=
  r_get hG hd (k := 9) (i := 0) (j := 0) (by decide) (by decide) rfl rfl i_Baler (by decide) rfl (m_T1 (i := 148) (by decide +kernel) (by decide +kernel)) rfl K
theorem p_Ward_236 (hG : IsG Γ R cc nL "BinWard" ret post mc ms G) {z : Int} (hd : Dc cc pc (.putfield 236) 3 n) (K : G cs n ls st (sU S 50 0 0 z)) : G cs pc ls (nt z :: rf Γ 9 0 :: st) S :=
  r_put hG hd (k := 9) (i := 0) (j := 0) (f := 50) (by decide) (by decide) rfl rfl i_Baler t_Baler_ok n_Baler (by decide) rfl (m_T1 (i := 148) (by decide +kernel) (by decide +kernel)) rfl (by decide +kernel) (by show 0 < 4; decide) rfl (by decide) (cs_50 Γ S 0 z) K
theorem g_Baler_22 (hG : IsG Γ R cc nL "BinWard$Baler" ret post mc ms G) (hd : Dc cc pc (.getfield 22) 3 n) (K : G cs n ls (nt (S 51 0 0) :: st) S) : G cs pc ls (rf Γ 9 0 :: st) S :=
  r_get hG hd (k := 9) (i := 0) (j := 1) (by decide) (by decide) rfl rfl i_Baler (by decide) rfl (m_T1 (i := 149) (by decide +kernel) (by decide +kernel)) rfl K
theorem p_Baler_22 (hG : IsG Γ R cc nL "BinWard$Baler" ret post mc ms G) {z : Int} (hd : Dc cc pc (.putfield 22) 3 n) (K : G cs n ls st (sU S 51 0 0 z)) : G cs pc ls (nt z :: rf Γ 9 0 :: st) S :=
  r_put hG hd (k := 9) (i := 0) (j := 1) (f := 51) (by decide) (by decide) rfl rfl i_Baler t_Baler_ok n_Baler (by decide) rfl (m_T1 (i := 149) (by decide +kernel) (by decide +kernel)) rfl (by decide +kernel) (by show 1 < 4; decide) rfl (by decide) (cs_51 Γ S 0 z) K
theorem g_Line_30 (hG : IsG Γ R cc nL "BinWard$Line" ret post mc ms G) (hd : Dc cc pc (.getfield 30) 3 n) (K : G cs n ls (nt (S 51 0 0) :: st) S) : G cs pc ls (rf Γ 9 0 :: st) S :=
  r_get hG hd (k := 9) (i := 0) (j := 1) (by decide) (by decide) rfl rfl i_Baler (by decide) rfl (m_T1 (i := 150) (by decide +kernel) (by decide +kernel)) rfl K
theorem p_Line_30 (hG : IsG Γ R cc nL "BinWard$Line" ret post mc ms G) {z : Int} (hd : Dc cc pc (.putfield 30) 3 n) (K : G cs n ls st (sU S 51 0 0 z)) : G cs pc ls (nt z :: rf Γ 9 0 :: st) S :=
  r_put hG hd (k := 9) (i := 0) (j := 1) (f := 51) (by decide) (by decide) rfl rfl i_Baler t_Baler_ok n_Baler (by decide) rfl (m_T1 (i := 150) (by decide +kernel) (by decide +kernel)) rfl (by decide +kernel) (by show 1 < 4; decide) rfl (by decide) (cs_51 Γ S 0 z) K
theorem g_Ward_237 (hG : IsG Γ R cc nL "BinWard" ret post mc ms G) (hd : Dc cc pc (.getfield 237) 3 n) (K : G cs n ls (nt (S 51 0 0) :: st) S) : G cs pc ls (rf Γ 9 0 :: st) S :=
  r_get hG hd (k := 9) (i := 0) (j := 1) (by decide) (by decide) rfl rfl i_Baler (by decide) rfl (m_T1 (i := 151) (by decide +kernel) (by decide +kernel)) rfl K
theorem p_Ward_237 (hG : IsG Γ R cc nL "BinWard" ret post mc ms G) {z : Int} (hd : Dc cc pc (.putfield 237) 3 n) (K : G cs n ls st (sU S 51 0 0 z)) : G cs pc ls (nt z :: rf Γ 9 0 :: st) S :=
  r_put hG hd (k := 9) (i := 0) (j := 1) (f := 51) (by decide) (by decide) rfl rfl i_Baler t_Baler_ok n_Baler (by decide) rfl (m_T1 (i := 151) (by decide +kernel) (by decide +kernel)) rfl (by decide +kernel) (by show 1 < 4; decide) rfl (by decide) (cs_51 Γ S 0 z) K
theorem g_Baler_11 (hG : IsG Γ R cc nL "BinWard$Baler" ret post mc ms G) (hd : Dc cc pc (.getfield 11) 3 n) (K : G cs n ls (rf Γ 10 0 :: st) S) : G cs pc ls (rf Γ 9 0 :: st) S :=
  r_get hG hd (k := 9) (i := 0) (j := 2) (by decide) (by decide) rfl rfl i_Baler (by decide) rfl (m_T1 (i := 152) (by decide +kernel) (by decide +kernel)) rfl K
theorem g_Ward_416 (hG : IsG Γ R cc nL "BinWard" ret post mc ms G) (hd : Dc cc pc (.getfield 416) 3 n) (K : G cs n ls (rf Γ 10 0 :: st) S) : G cs pc ls (rf Γ 9 0 :: st) S :=
  r_get hG hd (k := 9) (i := 0) (j := 2) (by decide) (by decide) rfl rfl i_Baler (by decide) rfl (m_T1 (i := 153) (by decide +kernel) (by decide +kernel)) rfl K
theorem g_Baler_25 (hG : IsG Γ R cc nL "BinWard$Baler" ret post mc ms G) (hd : Dc cc pc (.getfield 25) 3 n) (K : G cs n ls (nt (S 52 0 0) :: st) S) : G cs pc ls (rf Γ 9 0 :: st) S :=
  r_get hG hd (k := 9) (i := 0) (j := 3) (by decide) (by decide) rfl rfl i_Baler (by decide) rfl (m_T1 (i := 154) (by decide +kernel) (by decide +kernel)) rfl K
theorem p_Baler_25 (hG : IsG Γ R cc nL "BinWard$Baler" ret post mc ms G) {z : Int} (hd : Dc cc pc (.putfield 25) 3 n) (K : G cs n ls st (sU S 52 0 0 z)) : G cs pc ls (nt z :: rf Γ 9 0 :: st) S :=
  r_put hG hd (k := 9) (i := 0) (j := 3) (f := 52) (by decide) (by decide) rfl rfl i_Baler t_Baler_ok n_Baler (by decide) rfl (m_T1 (i := 154) (by decide +kernel) (by decide +kernel)) rfl (by decide +kernel) (by show 3 < 4; decide) rfl (by decide) (cs_52 Γ S 0 z) K
theorem g_Ward_238 (hG : IsG Γ R cc nL "BinWard" ret post mc ms G) (hd : Dc cc pc (.getfield 238) 3 n) (K : G cs n ls (nt (S 52 0 0) :: st) S) : G cs pc ls (rf Γ 9 0 :: st) S :=
  r_get hG hd (k := 9) (i := 0) (j := 3) (by decide) (by decide) rfl rfl i_Baler (by decide) rfl (m_T1 (i := 155) (by decide +kernel) (by decide +kernel)) rfl K
theorem p_Ward_238 (hG : IsG Γ R cc nL "BinWard" ret post mc ms G) {z : Int} (hd : Dc cc pc (.putfield 238) 3 n) (K : G cs n ls st (sU S 52 0 0 z)) : G cs pc ls (nt z :: rf Γ 9 0 :: st) S :=
  r_put hG hd (k := 9) (i := 0) (j := 3) (f := 52) (by decide) (by decide) rfl rfl i_Baler t_Baler_ok n_Baler (by decide) rfl (m_T1 (i := 155) (by decide +kernel) (by decide +kernel)) rfl (by decide +kernel) (by show 3 < 4; decide) rfl (by decide) (cs_52 Γ S 0 z) K
theorem g_Furnace_7 (hG : IsG Γ R cc nL "BinWard$Furnace" ret post mc ms G) (hd : Dc cc pc (.getfield 7) 3 n) (K : G cs n ls (nt (S 60 0 0) :: st) S) : G cs pc ls (rf Γ 12 0 :: st) S :=
  r_get hG hd (k := 12) (i := 0) (j := 0) (by decide) (by decide) rfl rfl i_Furnace (by decide) rfl (m_T1 (i := 171) (by decide +kernel) (by decide +kernel)) rfl K
theorem p_Furnace_7 (hG : IsG Γ R cc nL "BinWard$Furnace" ret post mc ms G) {z : Int} (hd : Dc cc pc (.putfield 7) 3 n) (K : G cs n ls st (sU S 60 0 0 z)) : G cs pc ls (nt z :: rf Γ 12 0 :: st) S :=
  r_put hG hd (k := 12) (i := 0) (j := 0) (f := 60) (by decide) (by decide) rfl rfl i_Furnace t_Furnace_ok n_Furnace (by decide) rfl (m_T1 (i := 171) (by decide +kernel) (by decide +kernel)) rfl (by decide +kernel) (by show 0 < 5; decide) rfl (by decide) (cs_60 Γ S 0 z) K
theorem g_Ward_148 (hG : IsG Γ R cc nL "BinWard" ret post mc ms G) (hd : Dc cc pc (.getfield 148) 3 n) (K : G cs n ls (nt (S 60 0 0) :: st) S) : G cs pc ls (rf Γ 12 0 :: st) S :=
  r_get hG hd (k := 12) (i := 0) (j := 0) (by decide) (by decide) rfl rfl i_Furnace (by decide) rfl (m_T1 (i := 172) (by decide +kernel) (by decide +kernel)) rfl K
theorem p_Ward_148 (hG : IsG Γ R cc nL "BinWard" ret post mc ms G) {z : Int} (hd : Dc cc pc (.putfield 148) 3 n) (K : G cs n ls st (sU S 60 0 0 z)) : G cs pc ls (nt z :: rf Γ 12 0 :: st) S :=
  r_put hG hd (k := 12) (i := 0) (j := 0) (f := 60) (by decide) (by decide) rfl rfl i_Furnace t_Furnace_ok n_Furnace (by decide) rfl (m_T1 (i := 172) (by decide +kernel) (by decide +kernel)) rfl (by decide +kernel) (by show 0 < 5; decide) rfl (by decide) (cs_60 Γ S 0 z) K
theorem g_Furnace_13 (hG : IsG Γ R cc nL "BinWard$Furnace" ret post mc ms G) (hd : Dc cc pc (.getfield 13) 3 n) (K : G cs n ls (nt (S 61 0 0) :: st) S) : G cs pc ls (rf Γ 12 0 :: st) S :=
  r_get hG hd (k := 12) (i := 0) (j := 1) (by decide) (by decide) rfl rfl i_Furnace (by decide) rfl (m_T1 (i := 173) (by decide +kernel) (by decide +kernel)) rfl K
theorem p_Furnace_13 (hG : IsG Γ R cc nL "BinWard$Furnace" ret post mc ms G) {z : Int} (hd : Dc cc pc (.putfield 13) 3 n) (K : G cs n ls st (sU S 61 0 0 z)) : G cs pc ls (nt z :: rf Γ 12 0 :: st) S :=
  r_put hG hd (k := 12) (i := 0) (j := 1) (f := 61) (by decide) (by decide) rfl rfl i_Furnace t_Furnace_ok n_Furnace (by decide) rfl (m_T1 (i := 173) (by decide +kernel) (by decide +kernel)) rfl (by decide +kernel) (by show 1 < 5; decide) rfl (by decide) (cs_61 Γ S 0 z) K
theorem g_Furnace_22 (hG : IsG Γ R cc nL "BinWard$Furnace" ret post mc ms G) (hd : Dc cc pc (.getfield 22) 3 n) (K : G cs n ls (nt (S 62 0 0) :: st) S) : G cs pc ls (rf Γ 12 0 :: st) S :=
  r_get hG hd (k := 12) (i := 0) (j := 2) (by decide) (by decide) rfl rfl i_Furnace (by decide) rfl (m_T1 (i := 174) (by decide +kernel) (by decide +kernel)) rfl K
theorem p_Furnace_22 (hG : IsG Γ R cc nL "BinWard$Furnace" ret post mc ms G) {z : Int} (hd : Dc cc pc (.putfield 22) 3 n) (K : G cs n ls st (sU S 62 0 0 z)) : G cs pc ls (nt z :: rf Γ 12 0 :: st) S :=
  r_put hG hd (k := 12) (i := 0) (j := 2) (f := 62) (by decide) (by decide) rfl rfl i_Furnace t_Furnace_ok n_Furnace (by decide) rfl (m_T1 (i := 174) (by decide +kernel) (by decide +kernel)) rfl (by decide +kernel) (by show 2 < 5; decide) rfl (by decide) (cs_62 Γ S 0 z) K
theorem g_Ward_260 (hG : IsG Γ R cc nL "BinWard" ret post mc ms G) (hd : Dc cc pc (.getfield 260) 3 n) (K : G cs n ls (nt (S 62 0 0) :: st) S) : G cs pc ls (rf Γ 12 0 :: st) S :=
  r_get hG hd (k := 12) (i := 0) (j := 2) (by decide) (by decide) rfl rfl i_Furnace (by decide) rfl (m_T1 (i := 175) (by decide +kernel) (by decide +kernel)) rfl K
theorem p_Ward_260 (hG : IsG Γ R cc nL "BinWard" ret post mc ms G) {z : Int} (hd : Dc cc pc (.putfield 260) 3 n) (K : G cs n ls st (sU S 62 0 0 z)) : G cs pc ls (nt z :: rf Γ 12 0 :: st) S :=
  r_put hG hd (k := 12) (i := 0) (j := 2) (f := 62) (by decide) (by decide) rfl rfl i_Furnace t_Furnace_ok n_Furnace (by decide) rfl (m_T1 (i := 175) (by decide +kernel) (by decide +kernel)) rfl (by decide +kernel) (by show 2 < 5; decide) rfl (by decide) (cs_62 Γ S 0 z) K
theorem g_Furnace_28 (hG : IsG Γ R cc nL "BinWard$Furnace" ret post mc ms G) (hd : Dc cc pc (.getfield 28) 3 n) (K : G cs n ls (nt (S 63 0 0) :: st) S) : G cs pc ls (rf Γ 12 0 :: st) S :=
  r_get hG hd (k := 12) (i := 0) (j := 3) (by decide) (by decide) rfl rfl i_Furnace (by decide) rfl (m_T1 (i := 176) (by decide +kernel) (by decide +kernel)) rfl K
theorem p_Furnace_28 (hG : IsG Γ R cc nL "BinWard$Furnace" ret post mc ms G) {z : Int} (hd : Dc cc pc (.putfield 28) 3 n) (K : G cs n ls st (sU S 63 0 0 z)) : G cs pc ls (nt z :: rf Γ 12 0 :: st) S :=
  r_put hG hd (k := 12) (i := 0) (j := 3) (f := 63) (by decide) (by decide) rfl rfl i_Furnace t_Furnace_ok n_Furnace (by decide) rfl (m_T1 (i := 176) (by decide +kernel) (by decide +kernel)) rfl (by decide +kernel) (by show 3 < 5; decide) rfl (by decide) (cs_63 Γ S 0 z) K
theorem g_Ward_263 (hG : IsG Γ R cc nL "BinWard" ret post mc ms G) (hd : Dc cc pc (.getfield 263) 3 n) (K : G cs n ls (nt (S 63 0 0) :: st) S) : G cs pc ls (rf Γ 12 0 :: st) S :=
  r_get hG hd (k := 12) (i := 0) (j := 3) (by decide) (by decide) rfl rfl i_Furnace (by decide) rfl (m_T1 (i := 177) (by decide +kernel) (by decide +kernel)) rfl K
theorem p_Ward_263 (hG : IsG Γ R cc nL "BinWard" ret post mc ms G) {z : Int} (hd : Dc cc pc (.putfield 263) 3 n) (K : G cs n ls st (sU S 63 0 0 z)) : G cs pc ls (nt z :: rf Γ 12 0 :: st) S :=
  r_put hG hd (k := 12) (i := 0) (j := 3) (f := 63) (by decide) (by decide) rfl rfl i_Furnace t_Furnace_ok n_Furnace (by decide) rfl (m_T1 (i := 177) (by decide +kernel) (by decide +kernel)) rfl (by decide +kernel) (by show 3 < 5; decide) rfl (by decide) (cs_63 Γ S 0 z) K
theorem g_Furnace_25 (hG : IsG Γ R cc nL "BinWard$Furnace" ret post mc ms G) (hd : Dc cc pc (.getfield 25) 3 n) (K : G cs n ls (nt (S 64 0 0) :: st) S) : G cs pc ls (rf Γ 12 0 :: st) S :=
  r_get hG hd (k := 12) (i := 0) (j := 4) (by decide) (by decide) rfl rfl i_Furnace (by decide) rfl (m_T1 (i := 178) (by decide +kernel) (by decide +kernel)) rfl K
theorem p_Furnace_25 (hG : IsG Γ R cc nL "BinWard$Furnace" ret post mc ms G) {z : Int} (hd : Dc cc pc (.putfield 25) 3 n) (K : G cs n ls st (sU S 64 0 0 z)) : G cs pc ls (nt z :: rf Γ 12 0 :: st) S :=
  r_put hG hd (k := 12) (i := 0) (j := 4) (f := 64) (by decide) (by decide) rfl rfl i_Furnace t_Furnace_ok n_Furnace (by decide) rfl (m_T1 (i := 178) (by decide +kernel) (by decide +kernel)) rfl (by decide +kernel) (by show 4 < 5; decide) rfl (by decide) (cs_64 Γ S 0 z) K
theorem g_Ward_266 (hG : IsG Γ R cc nL "BinWard" ret post mc ms G) (hd : Dc cc pc (.getfield 266) 3 n) (K : G cs n ls (nt (S 64 0 0) :: st) S) : G cs pc ls (rf Γ 12 0 :: st) S :=
  r_get hG hd (k := 12) (i := 0) (j := 4) (by decide) (by decide) rfl rfl i_Furnace (by decide) rfl (m_T1 (i := 179) (by decide +kernel) (by decide +kernel)) rfl K
theorem p_Ward_266 (hG : IsG Γ R cc nL "BinWard" ret post mc ms G) {z : Int} (hd : Dc cc pc (.putfield 266) 3 n) (K : G cs n ls st (sU S 64 0 0 z)) : G cs pc ls (nt z :: rf Γ 12 0 :: st) S :=
  r_put hG hd (k := 12) (i := 0) (j := 4) (f := 64) (by decide) (by decide) rfl rfl i_Furnace t_Furnace_ok n_Furnace (by decide) rfl (m_T1 (i := 179) (by decide +kernel) (by decide +kernel)) rfl (by decide +kernel) (by show 4 < 5; decide) rfl (by decide) (cs_64 Γ S 0 z) K
theorem g_Heap_7 (hG : IsG Γ R cc nL "BinWard$Heap" ret post mc ms G) (hd : Dc cc pc (.getfield 7) 3 n) (K : G cs n ls (nt (S 65 0 0) :: st) S) : G cs pc ls (rf Γ 13 0 :: st) S :=
  r_get hG hd (k := 13) (i := 0) (j := 0) (by decide) (by decide) rfl rfl i_Heap (by decide) rfl (m_T1 (i := 197) (by decide +kernel) (by decide +kernel)) rfl K
theorem p_Heap_7 (hG : IsG Γ R cc nL "BinWard$Heap" ret post mc ms G) {z : Int} (hd : Dc cc pc (.putfield 7) 3 n) (K : G cs n ls st (sU S 65 0 0 z)) : G cs pc ls (nt z :: rf Γ 13 0 :: st) S :=
  r_put hG hd (k := 13) (i := 0) (j := 0) (f := 65) (by decide) (by decide) rfl rfl i_Heap t_Heap_ok n_Heap (by decide) rfl (m_T1 (i := 197) (by decide +kernel) (by decide +kernel)) rfl (by decide +kernel) (by show 0 < 5; decide) rfl (by decide) (cs_65 Γ S 0 z) K
theorem g_Ward_244 (hG : IsG Γ R cc nL "BinWard" ret post mc ms G) (hd : Dc cc pc (.getfield 244) 3 n) (K : G cs n ls (nt (S 65 0 0) :: st) S) : G cs pc ls (rf Γ 13 0 :: st) S :=
  r_get hG hd (k := 13) (i := 0) (j := 0) (by decide) (by decide) rfl rfl i_Heap (by decide) rfl (m_T1 (i := 198) (by decide +kernel) (by decide +kernel)) rfl K
theorem p_Ward_244 (hG : IsG Γ R cc nL "BinWard" ret post mc ms G) {z : Int} (hd : Dc cc pc (.putfield 244) 3 n) (K : G cs n ls st (sU S 65 0 0 z)) : G cs pc ls (nt z :: rf Γ 13 0 :: st) S :=
  r_put hG hd (k := 13) (i := 0) (j := 0) (f := 65) (by decide) (by decide) rfl rfl i_Heap t_Heap_ok n_Heap (by decide) rfl (m_T1 (i := 198) (by decide +kernel) (by decide +kernel)) rfl (by decide +kernel) (by show 0 < 5; decide) rfl (by decide) (cs_65 Γ S 0 z) K
theorem g_Heap_13 (hG : IsG Γ R cc nL "BinWard$Heap" ret post mc ms G) (hd : Dc cc pc (.getfield 13) 3 n) (K : G cs n ls (nt (S 66 0 0) :: st) S) : G cs pc ls (rf Γ 13 0 :: st) S :=
  r_get hG hd (k := 13) (i := 0) (j := 1) (by decide) (by decide) rfl rfl i_Heap (by decide) rfl (m_T1 (i := 199) (by decide +kernel) (by decide +kernel)) rfl K
theorem p_Heap_13 (hG : IsG Γ R cc nL "BinWard$Heap" ret post mc ms G) {z : Int} (hd : Dc cc pc (.putfield 13) 3 n) (K : G cs n ls st (sU S 66 0 0 z)) : G cs pc ls (nt z :: rf Γ 13 0 :: st) S :=
  r_put hG hd (k := 13) (i := 0) (j := 1) (f := 66) (by decide) (by decide) rfl rfl i_Heap t_Heap_ok n_Heap (by decide) rfl (m_T1 (i := 199) (by decide +kernel) (by decide +kernel)) rfl (by decide +kernel) (by show 1 < 5; decide) rfl (by decide) (cs_66 Γ S 0 z) K
theorem g_Ward_245 (hG : IsG Γ R cc nL "BinWard" ret post mc ms G) (hd : Dc cc pc (.getfield 245) 3 n) (K : G cs n ls (nt (S 66 0 0) :: st) S) : G cs pc ls (rf Γ 13 0 :: st) S :=
  r_get hG hd (k := 13) (i := 0) (j := 1) (by decide) (by decide) rfl rfl i_Heap (by decide) rfl (m_T1 (i := 200) (by decide +kernel) (by decide +kernel)) rfl K
theorem p_Ward_245 (hG : IsG Γ R cc nL "BinWard" ret post mc ms G) {z : Int} (hd : Dc cc pc (.putfield 245) 3 n) (K : G cs n ls st (sU S 66 0 0 z)) : G cs pc ls (nt z :: rf Γ 13 0 :: st) S :=
  r_put hG hd (k := 13) (i := 0) (j := 1) (f := 66) (by decide) (by decide) rfl rfl i_Heap t_Heap_ok n_Heap (by decide) rfl (m_T1 (i := 200) (by decide +kernel) (by decide +kernel)) rfl (by decide +kernel) (by show 1 < 5; decide) rfl (by decide) (cs_66 Γ S 0 z) K
theorem g_Heap_28 (hG : IsG Γ R cc nL "BinWard$Heap" ret post mc ms G) (hd : Dc cc pc (.getfield 28) 3 n) (K : G cs n ls (nt (S 67 0 0) :: st) S) : G cs pc ls (rf Γ 13 0 :: st) S :=
  r_get hG hd (k := 13) (i := 0) (j := 2) (by decide) (by decide) rfl rfl i_Heap (by decide) rfl (m_T1 (i := 201) (by decide +kernel) (by decide +kernel)) rfl K
theorem p_Heap_28 (hG : IsG Γ R cc nL "BinWard$Heap" ret post mc ms G) {z : Int} (hd : Dc cc pc (.putfield 28) 3 n) (K : G cs n ls st (sU S 67 0 0 z)) : G cs pc ls (nt z :: rf Γ 13 0 :: st) S :=
  r_put hG hd (k := 13) (i := 0) (j := 2) (f := 67) (by decide) (by decide) rfl rfl i_Heap t_Heap_ok n_Heap (by decide) rfl (m_T1 (i := 201) (by decide +kernel) (by decide +kernel)) rfl (by decide +kernel) (by show 2 < 5; decide) rfl (by decide) (cs_67 Γ S 0 z) K
theorem g_Ward_246 (hG : IsG Γ R cc nL "BinWard" ret post mc ms G) (hd : Dc cc pc (.getfield 246) 3 n) (K : G cs n ls (nt (S 67 0 0) :: st) S) : G cs pc ls (rf Γ 13 0 :: st) S :=
  r_get hG hd (k := 13) (i := 0) (j := 2) (by decide) (by decide) rfl rfl i_Heap (by decide) rfl (m_T1 (i := 202) (by decide +kernel) (by decide +kernel)) rfl K
theorem p_Ward_246 (hG : IsG Γ R cc nL "BinWard" ret post mc ms G) {z : Int} (hd : Dc cc pc (.putfield 246) 3 n) (K : G cs n ls st (sU S 67 0 0 z)) : G cs pc ls (nt z :: rf Γ 13 0 :: st) S :=
  r_put hG hd (k := 13) (i := 0) (j := 2) (f := 67) (by decide) (by decide) rfl rfl i_Heap t_Heap_ok n_Heap (by decide) rfl (m_T1 (i := 202) (by decide +kernel) (by decide +kernel)) rfl (by decide +kernel) (by show 2 < 5; decide) rfl (by decide) (cs_67 Γ S 0 z) K
theorem g_Heap_25 (hG : IsG Γ R cc nL "BinWard$Heap" ret post mc ms G) (hd : Dc cc pc (.getfield 25) 3 n) (K : G cs n ls (nt (S 68 0 0) :: st) S) : G cs pc ls (rf Γ 13 0 :: st) S :=
  r_get hG hd (k := 13) (i := 0) (j := 3) (by decide) (by decide) rfl rfl i_Heap (by decide) rfl (m_T1 (i := 203) (by decide +kernel) (by decide +kernel)) rfl K
theorem p_Heap_25 (hG : IsG Γ R cc nL "BinWard$Heap" ret post mc ms G) {z : Int} (hd : Dc cc pc (.putfield 25) 3 n) (K : G cs n ls st (sU S 68 0 0 z)) : G cs pc ls (nt z :: rf Γ 13 0 :: st) S :=
  r_put hG hd (k := 13) (i := 0) (j := 3) (f := 68) (by decide) (by decide) rfl rfl i_Heap t_Heap_ok n_Heap (by decide) rfl (m_T1 (i := 203) (by decide +kernel) (by decide +kernel)) rfl (by decide +kernel) (by show 3 < 5; decide) rfl (by decide) (cs_68 Γ S 0 z) K
theorem g_Ward_249 (hG : IsG Γ R cc nL "BinWard" ret post mc ms G) (hd : Dc cc pc (.getfield 249) 3 n) (K : G cs n ls (nt (S 68 0 0) :: st) S) : G cs pc ls (rf Γ 13 0 :: st) S :=
  r_get hG hd (k := 13) (i := 0) (j := 3) (by decide) (by decide) rfl rfl i_Heap (by decide) rfl (m_T1 (i := 204) (by decide +kernel) (by decide +kernel)) rfl K
theorem p_Ward_249 (hG : IsG Γ R cc nL "BinWard" ret post mc ms G) {z : Int} (hd : Dc cc pc (.putfield 249) 3 n) (K : G cs n ls st (sU S 68 0 0 z)) : G cs pc ls (nt z :: rf Γ 13 0 :: st) S :=
  r_put hG hd (k := 13) (i := 0) (j := 3) (f := 68) (by decide) (by decide) rfl rfl i_Heap t_Heap_ok n_Heap (by decide) rfl (m_T1 (i := 204) (by decide +kernel) (by decide +kernel)) rfl (by decide +kernel) (by show 3 < 5; decide) rfl (by decide) (cs_68 Γ S 0 z) K
theorem g_Heap_16 (hG : IsG Γ R cc nL "BinWard$Heap" ret post mc ms G) (hd : Dc cc pc (.getfield 16) 3 n) (K : G cs n ls (nt (S 69 0 0) :: st) S) : G cs pc ls (rf Γ 13 0 :: st) S :=
  r_get hG hd (k := 13) (i := 0) (j := 4) (by decide) (by decide) rfl rfl i_Heap (by decide) rfl (m_T1 (i := 205) (by decide +kernel) (by decide +kernel)) rfl K
theorem p_Heap_16 (hG : IsG Γ R cc nL "BinWard$Heap" ret post mc ms G) {z : Int} (hd : Dc cc pc (.putfield 16) 3 n) (K : G cs n ls st (sU S 69 0 0 z)) : G cs pc ls (nt z :: rf Γ 13 0 :: st) S :=
  r_put hG hd (k := 13) (i := 0) (j := 4) (f := 69) (by decide) (by decide) rfl rfl i_Heap t_Heap_ok n_Heap (by decide) rfl (m_T1 (i := 205) (by decide +kernel) (by decide +kernel)) rfl (by decide +kernel) (by show 4 < 5; decide) rfl (by decide) (cs_69 Γ S 0 z) K
theorem g_Ward_410 (hG : IsG Γ R cc nL "BinWard" ret post mc ms G) (hd : Dc cc pc (.getfield 410) 3 n) (K : G cs n ls (nt (S 69 0 0) :: st) S) : G cs pc ls (rf Γ 13 0 :: st) S :=
  r_get hG hd (k := 13) (i := 0) (j := 4) (by decide) (by decide) rfl rfl i_Heap (by decide) rfl (m_T1 (i := 206) (by decide +kernel) (by decide +kernel)) rfl K
theorem p_Ward_410 (hG : IsG Γ R cc nL "BinWard" ret post mc ms G) {z : Int} (hd : Dc cc pc (.putfield 410) 3 n) (K : G cs n ls st (sU S 69 0 0 z)) : G cs pc ls (nt z :: rf Γ 13 0 :: st) S :=
  r_put hG hd (k := 13) (i := 0) (j := 4) (f := 69) (by decide) (by decide) rfl rfl i_Heap t_Heap_ok n_Heap (by decide) rfl (m_T1 (i := 206) (by decide +kernel) (by decide +kernel)) rfl (by decide +kernel) (by show 4 < 5; decide) rfl (by decide) (cs_69 Γ S 0 z) K
theorem g_Pit_7 (hG : IsG Γ R cc nL "BinWard$Pit" ret post mc ms G) (hd : Dc cc pc (.getfield 7) 3 n) (K : G cs n ls (nt (S 70 0 0) :: st) S) : G cs pc ls (rf Γ 14 0 :: st) S :=
  r_get hG hd (k := 14) (i := 0) (j := 0) (by decide) (by decide) rfl rfl i_Pit (by decide) rfl (m_T1 (i := 224) (by decide +kernel) (by decide +kernel)) rfl K
theorem p_Pit_7 (hG : IsG Γ R cc nL "BinWard$Pit" ret post mc ms G) {z : Int} (hd : Dc cc pc (.putfield 7) 3 n) (K : G cs n ls st (sU S 70 0 0 z)) : G cs pc ls (nt z :: rf Γ 14 0 :: st) S :=
  r_put hG hd (k := 14) (i := 0) (j := 0) (f := 70) (by decide) (by decide) rfl rfl i_Pit t_Pit_ok n_Pit (by decide) rfl (m_T1 (i := 224) (by decide +kernel) (by decide +kernel)) rfl (by decide +kernel) (by show 0 < 4; decide) rfl (by decide) (cs_70 Γ S 0 z) K
theorem g_Ward_252 (hG : IsG Γ R cc nL "BinWard" ret post mc ms G) (hd : Dc cc pc (.getfield 252) 3 n) (K : G cs n ls (nt (S 70 0 0) :: st) S) : G cs pc ls (rf Γ 14 0 :: st) S :=
  r_get hG hd (k := 14) (i := 0) (j := 0) (by decide) (by decide) rfl rfl i_Pit (by decide) rfl (m_T1 (i := 225) (by decide +kernel) (by decide +kernel)) rfl K
theorem p_Ward_252 (hG : IsG Γ R cc nL "BinWard" ret post mc ms G) {z : Int} (hd : Dc cc pc (.putfield 252) 3 n) (K : G cs n ls st (sU S 70 0 0 z)) : G cs pc ls (nt z :: rf Γ 14 0 :: st) S :=
  r_put hG hd (k := 14) (i := 0) (j := 0) (f := 70) (by decide) (by decide) rfl rfl i_Pit t_Pit_ok n_Pit (by decide) rfl (m_T1 (i := 225) (by decide +kernel) (by decide +kernel)) rfl (by decide +kernel) (by show 0 < 4; decide) rfl (by decide) (cs_70 Γ S 0 z) K
theorem g_Pit_13 (hG : IsG Γ R cc nL "BinWard$Pit" ret post mc ms G) (hd : Dc cc pc (.getfield 13) 3 n) (K : G cs n ls (nt (S 71 0 0) :: st) S) : G cs pc ls (rf Γ 14 0 :: st) S :=
  r_get hG hd (k := 14) (i := 0) (j := 1) (by decide) (by decide) rfl rfl i_Pit (by decide) rfl (m_T1 (i := 226) (by decide +kernel) (by decide +kernel)) rfl K
theorem p_Pit_13 (hG : IsG Γ R cc nL "BinWard$Pit" ret post mc ms G) {z : Int} (hd : Dc cc pc (.putfield 13) 3 n) (K : G cs n ls st (sU S 71 0 0 z)) : G cs pc ls (nt z :: rf Γ 14 0 :: st) S :=
  r_put hG hd (k := 14) (i := 0) (j := 1) (f := 71) (by decide) (by decide) rfl rfl i_Pit t_Pit_ok n_Pit (by decide) rfl (m_T1 (i := 226) (by decide +kernel) (by decide +kernel)) rfl (by decide +kernel) (by show 1 < 4; decide) rfl (by decide) (cs_71 Γ S 0 z) K
theorem g_Ward_254 (hG : IsG Γ R cc nL "BinWard" ret post mc ms G) (hd : Dc cc pc (.getfield 254) 3 n) (K : G cs n ls (nt (S 71 0 0) :: st) S) : G cs pc ls (rf Γ 14 0 :: st) S :=
  r_get hG hd (k := 14) (i := 0) (j := 1) (by decide) (by decide) rfl rfl i_Pit (by decide) rfl (m_T1 (i := 227) (by decide +kernel) (by decide +kernel)) rfl K
theorem p_Ward_254 (hG : IsG Γ R cc nL "BinWard" ret post mc ms G) {z : Int} (hd : Dc cc pc (.putfield 254) 3 n) (K : G cs n ls st (sU S 71 0 0 z)) : G cs pc ls (nt z :: rf Γ 14 0 :: st) S :=
  r_put hG hd (k := 14) (i := 0) (j := 1) (f := 71) (by decide) (by decide) rfl rfl i_Pit t_Pit_ok n_Pit (by decide) rfl (m_T1 (i := 227) (by decide +kernel) (by decide +kernel)) rfl (by decide +kernel) (by show 1 < 4; decide) rfl (by decide) (cs_71 Γ S 0 z) K
theorem g_Pit_19 (hG : IsG Γ R cc nL "BinWard$Pit" ret post mc ms G) (hd : Dc cc pc (.getfield 19) 3 n) (K : G cs n ls (nt (S 72 0 0) :: st) S) : G cs pc ls (rf Γ 14 0 :: st) S :=
  r_get hG hd (k := 14) (i := 0) (j := 2) (by decide) (by decide) rfl rfl i_Pit (by decide) rfl (m_T1 (i := 228) (by decide +kernel) (by decide +kernel)) rfl K
theorem p_Pit_19 (hG : IsG Γ R cc nL "BinWard$Pit" ret post mc ms G) {z : Int} (hd : Dc cc pc (.putfield 19) 3 n) (K : G cs n ls st (sU S 72 0 0 z)) : G cs pc ls (nt z :: rf Γ 14 0 :: st) S :=
  r_put hG hd (k := 14) (i := 0) (j := 2) (f := 72) (by decide) (by decide) rfl rfl i_Pit t_Pit_ok n_Pit (by decide) rfl (m_T1 (i := 228) (by decide +kernel) (by decide +kernel)) rfl (by decide +kernel) (by show 2 < 4; decide) rfl (by decide) (cs_72 Γ S 0 z) K
theorem g_Ward_257 (hG : IsG Γ R cc nL "BinWard" ret post mc ms G) (hd : Dc cc pc (.getfield 257) 3 n) (K : G cs n ls (nt (S 72 0 0) :: st) S) : G cs pc ls (rf Γ 14 0 :: st) S :=
  r_get hG hd (k := 14) (i := 0) (j := 2) (by decide) (by decide) rfl rfl i_Pit (by decide) rfl (m_T1 (i := 229) (by decide +kernel) (by decide +kernel)) rfl K
theorem p_Ward_257 (hG : IsG Γ R cc nL "BinWard" ret post mc ms G) {z : Int} (hd : Dc cc pc (.putfield 257) 3 n) (K : G cs n ls st (sU S 72 0 0 z)) : G cs pc ls (nt z :: rf Γ 14 0 :: st) S :=
  r_put hG hd (k := 14) (i := 0) (j := 2) (f := 72) (by decide) (by decide) rfl rfl i_Pit t_Pit_ok n_Pit (by decide) rfl (m_T1 (i := 229) (by decide +kernel) (by decide +kernel)) rfl (by decide +kernel) (by show 2 < 4; decide) rfl (by decide) (cs_72 Γ S 0 z) K
theorem g_Pit_16 (hG : IsG Γ R cc nL "BinWard$Pit" ret post mc ms G) (hd : Dc cc pc (.getfield 16) 3 n) (K : G cs n ls (nt (S 73 0 0) :: st) S) : G cs pc ls (rf Γ 14 0 :: st) S :=
  r_get hG hd (k := 14) (i := 0) (j := 3) (by decide) (by decide) rfl rfl i_Pit (by decide) rfl (m_T1 (i := 230) (by decide +kernel) (by decide +kernel)) rfl K
theorem p_Pit_16 (hG : IsG Γ R cc nL "BinWard$Pit" ret post mc ms G) {z : Int} (hd : Dc cc pc (.putfield 16) 3 n) (K : G cs n ls st (sU S 73 0 0 z)) : G cs pc ls (nt z :: rf Γ 14 0 :: st) S :=
  r_put hG hd (k := 14) (i := 0) (j := 3) (f := 73) (by decide) (by decide) rfl rfl i_Pit t_Pit_ok n_Pit (by decide) rfl (m_T1 (i := 230) (by decide +kernel) (by decide +kernel)) rfl (by decide +kernel) (by show 3 < 4; decide) rfl (by decide) (cs_73 Γ S 0 z) K
theorem g_Ward_269 (hG : IsG Γ R cc nL "BinWard" ret post mc ms G) (hd : Dc cc pc (.getfield 269) 3 n) (K : G cs n ls (nt (S 73 0 0) :: st) S) : G cs pc ls (rf Γ 14 0 :: st) S :=
  r_get hG hd (k := 14) (i := 0) (j := 3) (by decide) (by decide) rfl rfl i_Pit (by decide) rfl (m_T1 (i := 231) (by decide +kernel) (by decide +kernel)) rfl K
theorem p_Ward_269 (hG : IsG Γ R cc nL "BinWard" ret post mc ms G) {z : Int} (hd : Dc cc pc (.putfield 269) 3 n) (K : G cs n ls st (sU S 73 0 0 z)) : G cs pc ls (nt z :: rf Γ 14 0 :: st) S :=
  r_put hG hd (k := 14) (i := 0) (j := 3) (f := 73) (by decide) (by decide) rfl rfl i_Pit t_Pit_ok n_Pit (by decide) rfl (m_T1 (i := 231) (by decide +kernel) (by decide +kernel)) rfl (by decide +kernel) (by show 3 < 4; decide) rfl (by decide) (cs_73 Γ S 0 z) K
theorem g_Trip_30 (hG : IsG Γ R cc nL "BinWard$Trip" ret post mc ms G) {i : Nat} (hi : i < 12) (hd : Dc cc pc (.getfield 30) 3 n) (K : G cs n ls (nt (S 10 i 0) :: st) S) : G cs pc ls (rf Γ 15 i :: st) S :=
  r_get hG hd (k := 15) (i := i) (j := 0) (by decide) hi rfl rfl i_Street (by decide) rfl (m_T2 (i := 6) (by decide +kernel) (by decide +kernel)) rfl K
theorem p_Trip_30 (hG : IsG Γ R cc nL "BinWard$Trip" ret post mc ms G) {z : Int} {i : Nat} (hi : i < 12) (hd : Dc cc pc (.putfield 30) 3 n) (K : G cs n ls st (sU S 10 i 0 z)) : G cs pc ls (nt z :: rf Γ 15 i :: st) S :=
  r_put hG hd (k := 15) (i := i) (j := 0) (f := 10) (by decide) hi rfl rfl i_Street t_Street_ok n_Street (by decide) rfl (m_T2 (i := 6) (by decide +kernel) (by decide +kernel)) rfl (by decide +kernel) (by show 0 < 9; decide) rfl (by decide) (cs_10 Γ S i z) K
theorem g_Ward_97 (hG : IsG Γ R cc nL "BinWard" ret post mc ms G) {i : Nat} (hi : i < 12) (hd : Dc cc pc (.getfield 97) 3 n) (K : G cs n ls (nt (S 10 i 0) :: st) S) : G cs pc ls (rf Γ 15 i :: st) S :=
  r_get hG hd (k := 15) (i := i) (j := 0) (by decide) hi rfl rfl i_Street (by decide) rfl (m_T2 (i := 7) (by decide +kernel) (by decide +kernel)) rfl K
theorem p_Ward_97 (hG : IsG Γ R cc nL "BinWard" ret post mc ms G) {z : Int} {i : Nat} (hi : i < 12) (hd : Dc cc pc (.putfield 97) 3 n) (K : G cs n ls st (sU S 10 i 0 z)) : G cs pc ls (nt z :: rf Γ 15 i :: st) S :=
  r_put hG hd (k := 15) (i := i) (j := 0) (f := 10) (by decide) hi rfl rfl i_Street t_Street_ok n_Street (by decide) rfl (m_T2 (i := 7) (by decide +kernel) (by decide +kernel)) rfl (by decide +kernel) (by show 0 < 9; decide) rfl (by decide) (cs_10 Γ S i z) K
theorem g_Street_47 (hG : IsG Γ R cc nL "BinWard$Street" ret post mc ms G) {i : Nat} (hi : i < 12) (hd : Dc cc pc (.getfield 47) 3 n) (K : G cs n ls (nt (S 10 i 0) :: st) S) : G cs pc ls (rf Γ 15 i :: st) S :=
  r_get hG hd (k := 15) (i := i) (j := 0) (by decide) hi rfl rfl i_Street (by decide) rfl (m_T2 (i := 8) (by decide +kernel) (by decide +kernel)) rfl K
theorem p_Street_47 (hG : IsG Γ R cc nL "BinWard$Street" ret post mc ms G) {z : Int} {i : Nat} (hi : i < 12) (hd : Dc cc pc (.putfield 47) 3 n) (K : G cs n ls st (sU S 10 i 0 z)) : G cs pc ls (nt z :: rf Γ 15 i :: st) S :=
  r_put hG hd (k := 15) (i := i) (j := 0) (f := 10) (by decide) hi rfl rfl i_Street t_Street_ok n_Street (by decide) rfl (m_T2 (i := 8) (by decide +kernel) (by decide +kernel)) rfl (by decide +kernel) (by show 0 < 9; decide) rfl (by decide) (cs_10 Γ S i z) K
theorem g_Search_67 (hG : IsG Γ R cc nL "BinWard$Search" ret post mc ms G) {i : Nat} (hi : i < 12) (hd : Dc cc pc (.getfield 67) 3 n) (K : G cs n ls (nt (S 10 i 0) :: st) S) : G cs pc ls (rf Γ 15 i :: st) S :=
  r_get hG hd (k := 15) (i := i) (j := 0) (by decide) hi rfl rfl i_Street (by decide) rfl (m_T2 (i := 9) (by decide +kernel) (by decide +kernel)) rfl K
theorem p_Search_67 (hG : IsG Γ R cc nL "BinWard$Search" ret post mc ms G) {z : Int} {i : Nat} (hi : i < 12) (hd : Dc cc pc (.putfield 67) 3 n) (K : G cs n ls st (sU S 10 i 0 z)) : G cs pc ls (nt z :: rf Γ 15 i :: st) S :=
  r_put hG hd (k := 15) (i := i) (j := 0) (f := 10) (by decide) hi rfl rfl i_Street t_Street_ok n_Street (by decide) rfl (m_T2 (i := 9) (by decide +kernel) (by decide +kernel)) rfl (by decide +kernel) (by show 0 < 9; decide) rfl (by decide) (cs_10 Γ S i z) K
theorem g_Ward_100 (hG : IsG Γ R cc nL "BinWard" ret post mc ms G) {i : Nat} (hi : i < 12) (hd : Dc cc pc (.getfield 100) 3 n) (K : G cs n ls (nt (S 11 i 0) :: st) S) : G cs pc ls (rf Γ 15 i :: st) S :=
  r_get hG hd (k := 15) (i := i) (j := 1) (by decide) hi rfl rfl i_Street (by decide) rfl (m_T2 (i := 10) (by decide +kernel) (by decide +kernel)) rfl K
theorem p_Ward_100 (hG : IsG Γ R cc nL "BinWard" ret post mc ms G) {z : Int} {i : Nat} (hi : i < 12) (hd : Dc cc pc (.putfield 100) 3 n) (K : G cs n ls st (sU S 11 i 0 z)) : G cs pc ls (nt z :: rf Γ 15 i :: st) S :=
  r_put hG hd (k := 15) (i := i) (j := 1) (f := 11) (by decide) hi rfl rfl i_Street t_Street_ok n_Street (by decide) rfl (m_T2 (i := 10) (by decide +kernel) (by decide +kernel)) rfl (by decide +kernel) (by show 1 < 9; decide) rfl (by decide) (cs_11 Γ S i z) K
theorem g_Street_28 (hG : IsG Γ R cc nL "BinWard$Street" ret post mc ms G) {i : Nat} (hi : i < 12) (hd : Dc cc pc (.getfield 28) 3 n) (K : G cs n ls (nt (S 11 i 0) :: st) S) : G cs pc ls (rf Γ 15 i :: st) S :=
  r_get hG hd (k := 15) (i := i) (j := 1) (by decide) hi rfl rfl i_Street (by decide) rfl (m_T2 (i := 11) (by decide +kernel) (by decide +kernel)) rfl K
theorem p_Street_28 (hG : IsG Γ R cc nL "BinWard$Street" ret post mc ms G) {z : Int} {i : Nat} (hi : i < 12) (hd : Dc cc pc (.putfield 28) 3 n) (K : G cs n ls st (sU S 11 i 0 z)) : G cs pc ls (nt z :: rf Γ 15 i :: st) S :=
  r_put hG hd (k := 15) (i := i) (j := 1) (f := 11) (by decide) hi rfl rfl i_Street t_Street_ok n_Street (by decide) rfl (m_T2 (i := 11) (by decide +kernel) (by decide +kernel)) rfl (by decide +kernel) (by show 1 < 9; decide) rfl (by decide) (cs_11 Γ S i z) K
theorem g_Street_41 (hG : IsG Γ R cc nL "BinWard$Street" ret post mc ms G) {i : Nat} (hi : i < 12) (hd : Dc cc pc (.getfield 41) 3 n) (K : G cs n ls (nt (S 12 i 0) :: st) S) : G cs pc ls (rf Γ 15 i :: st) S :=
  r_get hG hd (k := 15) (i := i) (j := 2) (by decide) hi rfl rfl i_Street (by decide) rfl (m_T2 (i := 12) (by decide +kernel) (by decide +kernel)) rfl K
theorem p_Street_41 (hG : IsG Γ R cc nL "BinWard$Street" ret post mc ms G) {z : Int} {i : Nat} (hi : i < 12) (hd : Dc cc pc (.putfield 41) 3 n) (K : G cs n ls st (sU S 12 i 0 z)) : G cs pc ls (nt z :: rf Γ 15 i :: st) S :=
  r_put hG hd (k := 15) (i := i) (j := 2) (f := 12) (by decide) hi rfl rfl i_Street t_Street_ok n_Street (by decide) rfl (m_T2 (i := 12) (by decide +kernel) (by decide +kernel)) rfl (by decide +kernel) (by show 2 < 9; decide) rfl (by decide) (cs_12 Γ S i z) K
theorem g_Ward_181 (hG : IsG Γ R cc nL "BinWard" ret post mc ms G) {i : Nat} (hi : i < 12) (hd : Dc cc pc (.getfield 181) 3 n) (K : G cs n ls (nt (S 12 i 0) :: st) S) : G cs pc ls (rf Γ 15 i :: st) S :=
  r_get hG hd (k := 15) (i := i) (j := 2) (by decide) hi rfl rfl i_Street (by decide) rfl (m_T2 (i := 13) (by decide +kernel) (by decide +kernel)) rfl K
theorem p_Ward_181 (hG : IsG Γ R cc nL "BinWard" ret post mc ms G) {z : Int} {i : Nat} (hi : i < 12) (hd : Dc cc pc (.putfield 181) 3 n) (K : G cs n ls st (sU S 12 i 0 z)) : G cs pc ls (nt z :: rf Γ 15 i :: st) S :=
  r_put hG hd (k := 15) (i := i) (j := 2) (f := 12) (by decide) hi rfl rfl i_Street t_Street_ok n_Street (by decide) rfl (m_T2 (i := 13) (by decide +kernel) (by decide +kernel)) rfl (by decide +kernel) (by show 2 < 9; decide) rfl (by decide) (cs_12 Γ S i z) K
theorem g_Street_9 (hG : IsG Γ R cc nL "BinWard$Street" ret post mc ms G) {i : Nat} (hi : i < 12) (hd : Dc cc pc (.getfield 9) 3 n) (K : G cs n ls (rf Γ 16 i :: st) S) : G cs pc ls (rf Γ 15 i :: st) S :=
  r_get hG hd (k := 15) (i := i) (j := 3) (by decide) hi rfl rfl i_Street (by decide) rfl (m_T2 (i := 14) (by decide +kernel) (by decide +kernel)) rfl K
theorem g_Ward_111 (hG : IsG Γ R cc nL "BinWard" ret post mc ms G) {i : Nat} (hi : i < 12) (hd : Dc cc pc (.getfield 111) 3 n) (K : G cs n ls (rf Γ 16 i :: st) S) : G cs pc ls (rf Γ 15 i :: st) S :=
  r_get hG hd (k := 15) (i := i) (j := 3) (by decide) hi rfl rfl i_Street (by decide) rfl (m_T2 (i := 15) (by decide +kernel) (by decide +kernel)) rfl K
theorem g_Street_15 (hG : IsG Γ R cc nL "BinWard$Street" ret post mc ms G) {i : Nat} (hi : i < 12) (hd : Dc cc pc (.getfield 15) 3 n) (K : G cs n ls (rf Γ 17 i :: st) S) : G cs pc ls (rf Γ 15 i :: st) S :=
  r_get hG hd (k := 15) (i := i) (j := 4) (by decide) hi rfl rfl i_Street (by decide) rfl (m_T2 (i := 16) (by decide +kernel) (by decide +kernel)) rfl K
theorem g_Trip_71 (hG : IsG Γ R cc nL "BinWard$Trip" ret post mc ms G) {i : Nat} (hi : i < 12) (hd : Dc cc pc (.getfield 71) 3 n) (K : G cs n ls (rf Γ 17 i :: st) S) : G cs pc ls (rf Γ 15 i :: st) S :=
  r_get hG hd (k := 15) (i := i) (j := 4) (by decide) hi rfl rfl i_Street (by decide) rfl (m_T2 (i := 17) (by decide +kernel) (by decide +kernel)) rfl K
theorem g_Ward_208 (hG : IsG Γ R cc nL "BinWard" ret post mc ms G) {i : Nat} (hi : i < 12) (hd : Dc cc pc (.getfield 208) 3 n) (K : G cs n ls (rf Γ 17 i :: st) S) : G cs pc ls (rf Γ 15 i :: st) S :=
  r_get hG hd (k := 15) (i := i) (j := 4) (by decide) hi rfl rfl i_Street (by decide) rfl (m_T2 (i := 18) (by decide +kernel) (by decide +kernel)) rfl K
theorem g_Street_18 (hG : IsG Γ R cc nL "BinWard$Street" ret post mc ms G) {i : Nat} (hi : i < 12) (hd : Dc cc pc (.getfield 18) 3 n) (K : G cs n ls (rf Γ 18 i :: st) S) : G cs pc ls (rf Γ 15 i :: st) S :=
  r_get hG hd (k := 15) (i := i) (j := 5) (by decide) hi rfl rfl i_Street (by decide) rfl (m_T2 (i := 19) (by decide +kernel) (by decide +kernel)) rfl K
theorem g_Trip_76 (hG : IsG Γ R cc nL "BinWard$Trip" ret post mc ms G) {i : Nat} (hi : i < 12) (hd : Dc cc pc (.getfield 76) 3 n) (K : G cs n ls (rf Γ 18 i :: st) S) : G cs pc ls (rf Γ 15 i :: st) S :=
  r_get hG hd (k := 15) (i := i) (j := 5) (by decide) hi rfl rfl i_Street (by decide) rfl (m_T2 (i := 20) (by decide +kernel) (by decide +kernel)) rfl K
theorem g_Ward_211 (hG : IsG Γ R cc nL "BinWard" ret post mc ms G) {i : Nat} (hi : i < 12) (hd : Dc cc pc (.getfield 211) 3 n) (K : G cs n ls (rf Γ 18 i :: st) S) : G cs pc ls (rf Γ 15 i :: st) S :=
  r_get hG hd (k := 15) (i := i) (j := 5) (by decide) hi rfl rfl i_Street (by decide) rfl (m_T2 (i := 21) (by decide +kernel) (by decide +kernel)) rfl K
theorem g_Street_21 (hG : IsG Γ R cc nL "BinWard$Street" ret post mc ms G) {i : Nat} (hi : i < 12) (hd : Dc cc pc (.getfield 21) 3 n) (K : G cs n ls (rf Γ 19 i :: st) S) : G cs pc ls (rf Γ 15 i :: st) S :=
  r_get hG hd (k := 15) (i := i) (j := 6) (by decide) hi rfl rfl i_Street (by decide) rfl (m_T2 (i := 22) (by decide +kernel) (by decide +kernel)) rfl K
theorem g_Trip_77 (hG : IsG Γ R cc nL "BinWard$Trip" ret post mc ms G) {i : Nat} (hi : i < 12) (hd : Dc cc pc (.getfield 77) 3 n) (K : G cs n ls (rf Γ 19 i :: st) S) : G cs pc ls (rf Γ 15 i :: st) S :=
  r_get hG hd (k := 15) (i := i) (j := 6) (by decide) hi rfl rfl i_Street (by decide) rfl (m_T2 (i := 23) (by decide +kernel) (by decide +kernel)) rfl K
theorem g_Street_44 (hG : IsG Γ R cc nL "BinWard$Street" ret post mc ms G) {i : Nat} (hi : i < 12) (hd : Dc cc pc (.getfield 44) 3 n) (K : G cs n ls (nt (S 13 i 0) :: st) S) : G cs pc ls (rf Γ 15 i :: st) S :=
  r_get hG hd (k := 15) (i := i) (j := 7) (by decide) hi rfl rfl i_Street (by decide) rfl (m_T2 (i := 24) (by decide +kernel) (by decide +kernel)) rfl K
theorem p_Street_44 (hG : IsG Γ R cc nL "BinWard$Street" ret post mc ms G) {z : Int} {i : Nat} (hi : i < 12) (hd : Dc cc pc (.putfield 44) 3 n) (K : G cs n ls st (sU S 13 i 0 z)) : G cs pc ls (nt z :: rf Γ 15 i :: st) S :=
  r_put hG hd (k := 15) (i := i) (j := 7) (f := 13) (by decide) hi rfl rfl i_Street t_Street_ok n_Street (by decide) rfl (m_T2 (i := 24) (by decide +kernel) (by decide +kernel)) rfl (by decide +kernel) (by show 7 < 9; decide) rfl (by decide) (cs_13 Γ S i z) K
theorem g_Ward_216 (hG : IsG Γ R cc nL "BinWard" ret post mc ms G) {i : Nat} (hi : i < 12) (hd : Dc cc pc (.getfield 216) 3 n) (K : G cs n ls (nt (S 14 i 0) :: st) S) : G cs pc ls (rf Γ 15 i :: st) S :=
  r_get hG hd (k := 15) (i := i) (j := 8) (by decide) hi rfl rfl i_Street (by decide) rfl (m_T2 (i := 25) (by decide +kernel) (by decide +kernel)) rfl K
theorem p_Ward_216 (hG : IsG Γ R cc nL "BinWard" ret post mc ms G) {z : Int} {i : Nat} (hi : i < 12) (hd : Dc cc pc (.putfield 216) 3 n) (K : G cs n ls st (sU S 14 i 0 z)) : G cs pc ls (nt z :: rf Γ 15 i :: st) S :=
  r_put hG hd (k := 15) (i := i) (j := 8) (f := 14) (by decide) hi rfl rfl i_Street t_Street_ok n_Street (by decide) rfl (m_T2 (i := 25) (by decide +kernel) (by decide +kernel)) rfl (by decide +kernel) (by show 8 < 9; decide) rfl (by decide) (cs_14 Γ S i z) K
theorem g_Search_35 (hG : IsG Γ R cc nL "BinWard$Search" ret post mc ms G) {i : Nat} (hi : i < 3) (hd : Dc cc pc (.getfield 35) 3 n) (K : G cs n ls (nt (S 20 i 0) :: st) S) : G cs pc ls (rf Γ 20 i :: st) S :=
  r_get hG hd (k := 20) (i := i) (j := 0) (by decide) hi rfl rfl i_Lorry (by decide) rfl (m_T2 (i := 54) (by decide +kernel) (by decide +kernel)) rfl K
theorem p_Search_35 (hG : IsG Γ R cc nL "BinWard$Search" ret post mc ms G) {z : Int} {i : Nat} (hi : i < 3) (hd : Dc cc pc (.putfield 35) 3 n) (K : G cs n ls st (sU S 20 i 0 z)) : G cs pc ls (nt z :: rf Γ 20 i :: st) S :=
  r_put hG hd (k := 20) (i := i) (j := 0) (f := 20) (by decide) hi rfl rfl i_Lorry t_Lorry_ok n_Lorry (by decide) rfl (m_T2 (i := 54) (by decide +kernel) (by decide +kernel)) rfl (by decide +kernel) (by show 0 < 9; decide) rfl (by decide) (cs_20 Γ S i z) K
theorem g_Trip_42 (hG : IsG Γ R cc nL "BinWard$Trip" ret post mc ms G) {i : Nat} (hi : i < 3) (hd : Dc cc pc (.getfield 42) 3 n) (K : G cs n ls (nt (S 20 i 0) :: st) S) : G cs pc ls (rf Γ 20 i :: st) S :=
  r_get hG hd (k := 20) (i := i) (j := 0) (by decide) hi rfl rfl i_Lorry (by decide) rfl (m_T2 (i := 55) (by decide +kernel) (by decide +kernel)) rfl K
theorem p_Trip_42 (hG : IsG Γ R cc nL "BinWard$Trip" ret post mc ms G) {z : Int} {i : Nat} (hi : i < 3) (hd : Dc cc pc (.putfield 42) 3 n) (K : G cs n ls st (sU S 20 i 0 z)) : G cs pc ls (nt z :: rf Γ 20 i :: st) S :=
  r_put hG hd (k := 20) (i := i) (j := 0) (f := 20) (by decide) hi rfl rfl i_Lorry t_Lorry_ok n_Lorry (by decide) rfl (m_T2 (i := 55) (by decide +kernel) (by decide +kernel)) rfl (by decide +kernel) (by show 0 < 9; decide) rfl (by decide) (cs_20 Γ S i z) K
theorem g_Ward_120 (hG : IsG Γ R cc nL "BinWard" ret post mc ms G) {i : Nat} (hi : i < 3) (hd : Dc cc pc (.getfield 120) 3 n) (K : G cs n ls (nt (S 20 i 0) :: st) S) : G cs pc ls (rf Γ 20 i :: st) S :=
  r_get hG hd (k := 20) (i := i) (j := 0) (by decide) hi rfl rfl i_Lorry (by decide) rfl (m_T2 (i := 56) (by decide +kernel) (by decide +kernel)) rfl K
theorem p_Ward_120 (hG : IsG Γ R cc nL "BinWard" ret post mc ms G) {z : Int} {i : Nat} (hi : i < 3) (hd : Dc cc pc (.putfield 120) 3 n) (K : G cs n ls st (sU S 20 i 0 z)) : G cs pc ls (nt z :: rf Γ 20 i :: st) S :=
  r_put hG hd (k := 20) (i := i) (j := 0) (f := 20) (by decide) hi rfl rfl i_Lorry t_Lorry_ok n_Lorry (by decide) rfl (m_T2 (i := 56) (by decide +kernel) (by decide +kernel)) rfl (by decide +kernel) (by show 0 < 9; decide) rfl (by decide) (cs_20 Γ S i z) K
theorem g_Lorry_9 (hG : IsG Γ R cc nL "BinWard$Lorry" ret post mc ms G) {i : Nat} (hi : i < 3) (hd : Dc cc pc (.getfield 9) 3 n) (K : G cs n ls (rf Γ 21 i :: st) S) : G cs pc ls (rf Γ 20 i :: st) S :=
  r_get hG hd (k := 20) (i := i) (j := 1) (by decide) hi rfl rfl i_Lorry (by decide) rfl (m_T2 (i := 57) (by decide +kernel) (by decide +kernel)) rfl K
theorem g_Trip_61 (hG : IsG Γ R cc nL "BinWard$Trip" ret post mc ms G) {i : Nat} (hi : i < 3) (hd : Dc cc pc (.getfield 61) 3 n) (K : G cs n ls (rf Γ 21 i :: st) S) : G cs pc ls (rf Γ 20 i :: st) S :=
  r_get hG hd (k := 20) (i := i) (j := 1) (by decide) hi rfl rfl i_Lorry (by decide) rfl (m_T2 (i := 58) (by decide +kernel) (by decide +kernel)) rfl K
theorem g_Search_52 (hG : IsG Γ R cc nL "BinWard$Search" ret post mc ms G) {i : Nat} (hi : i < 3) (hd : Dc cc pc (.getfield 52) 3 n) (K : G cs n ls (rf Γ 21 i :: st) S) : G cs pc ls (rf Γ 20 i :: st) S :=
  r_get hG hd (k := 20) (i := i) (j := 1) (by decide) hi rfl rfl i_Lorry (by decide) rfl (m_T2 (i := 59) (by decide +kernel) (by decide +kernel)) rfl K
theorem g_Ward_123 (hG : IsG Γ R cc nL "BinWard" ret post mc ms G) {i : Nat} (hi : i < 3) (hd : Dc cc pc (.getfield 123) 3 n) (K : G cs n ls (rf Γ 21 i :: st) S) : G cs pc ls (rf Γ 20 i :: st) S :=
  r_get hG hd (k := 20) (i := i) (j := 1) (by decide) hi rfl rfl i_Lorry (by decide) rfl (m_T2 (i := 60) (by decide +kernel) (by decide +kernel)) rfl K
theorem g_Lorry_17 (hG : IsG Γ R cc nL "BinWard$Lorry" ret post mc ms G) {i : Nat} (hi : i < 3) (hd : Dc cc pc (.getfield 17) 3 n) (K : G cs n ls (rf Γ 22 i :: st) S) : G cs pc ls (rf Γ 20 i :: st) S :=
  r_get hG hd (k := 20) (i := i) (j := 2) (by decide) hi rfl rfl i_Lorry (by decide) rfl (m_T2 (i := 61) (by decide +kernel) (by decide +kernel)) rfl K
theorem g_Trip_26 (hG : IsG Γ R cc nL "BinWard$Trip" ret post mc ms G) {i : Nat} (hi : i < 3) (hd : Dc cc pc (.getfield 26) 3 n) (K : G cs n ls (rf Γ 22 i :: st) S) : G cs pc ls (rf Γ 20 i :: st) S :=
  r_get hG hd (k := 20) (i := i) (j := 2) (by decide) hi rfl rfl i_Lorry (by decide) rfl (m_T2 (i := 62) (by decide +kernel) (by decide +kernel)) rfl K
theorem g_Ward_384 (hG : IsG Γ R cc nL "BinWard" ret post mc ms G) {i : Nat} (hi : i < 3) (hd : Dc cc pc (.getfield 384) 3 n) (K : G cs n ls (rf Γ 22 i :: st) S) : G cs pc ls (rf Γ 20 i :: st) S :=
  r_get hG hd (k := 20) (i := i) (j := 2) (by decide) hi rfl rfl i_Lorry (by decide) rfl (m_T2 (i := 63) (by decide +kernel) (by decide +kernel)) rfl K
theorem g_Lorry_20 (hG : IsG Γ R cc nL "BinWard$Lorry" ret post mc ms G) {i : Nat} (hi : i < 3) (hd : Dc cc pc (.getfield 20) 3 n) (K : G cs n ls (rf Γ 24 i :: st) S) : G cs pc ls (rf Γ 20 i :: st) S :=
  r_get hG hd (k := 20) (i := i) (j := 3) (by decide) hi rfl rfl i_Lorry (by decide) rfl (m_T2 (i := 64) (by decide +kernel) (by decide +kernel)) rfl K
theorem g_Trip_21 (hG : IsG Γ R cc nL "BinWard$Trip" ret post mc ms G) {i : Nat} (hi : i < 3) (hd : Dc cc pc (.getfield 21) 3 n) (K : G cs n ls (rf Γ 24 i :: st) S) : G cs pc ls (rf Γ 20 i :: st) S :=
  r_get hG hd (k := 20) (i := i) (j := 3) (by decide) hi rfl rfl i_Lorry (by decide) rfl (m_T2 (i := 65) (by decide +kernel) (by decide +kernel)) rfl K
theorem g_Ward_139 (hG : IsG Γ R cc nL "BinWard" ret post mc ms G) {i : Nat} (hi : i < 3) (hd : Dc cc pc (.getfield 139) 3 n) (K : G cs n ls (rf Γ 24 i :: st) S) : G cs pc ls (rf Γ 20 i :: st) S :=
  r_get hG hd (k := 20) (i := i) (j := 3) (by decide) hi rfl rfl i_Lorry (by decide) rfl (m_T2 (i := 66) (by decide +kernel) (by decide +kernel)) rfl K
theorem g_Lorry_26 (hG : IsG Γ R cc nL "BinWard$Lorry" ret post mc ms G) {i : Nat} (hi : i < 3) (hd : Dc cc pc (.getfield 26) 3 n) (K : G cs n ls (rf Γ 3 i :: st) S) : G cs pc ls (rf Γ 20 i :: st) S :=
  r_get hG hd (k := 20) (i := i) (j := 4) (by decide) hi rfl rfl i_Lorry (by decide) rfl (m_T2 (i := 67) (by decide +kernel) (by decide +kernel)) rfl K
theorem g_Ward_370 (hG : IsG Γ R cc nL "BinWard" ret post mc ms G) {i : Nat} (hi : i < 3) (hd : Dc cc pc (.getfield 370) 3 n) (K : G cs n ls (rf Γ 3 i :: st) S) : G cs pc ls (rf Γ 20 i :: st) S :=
  r_get hG hd (k := 20) (i := i) (j := 4) (by decide) hi rfl rfl i_Lorry (by decide) rfl (m_T2 (i := 68) (by decide +kernel) (by decide +kernel)) rfl K
theorem g_Lorry_38 (hG : IsG Γ R cc nL "BinWard$Lorry" ret post mc ms G) {i : Nat} (hi : i < 3) (hd : Dc cc pc (.getfield 38) 3 n) (K : G cs n ls (nt (S 21 i 0) :: st) S) : G cs pc ls (rf Γ 20 i :: st) S :=
  r_get hG hd (k := 20) (i := i) (j := 5) (by decide) hi rfl rfl i_Lorry (by decide) rfl (m_T2 (i := 69) (by decide +kernel) (by decide +kernel)) rfl K
theorem p_Lorry_38 (hG : IsG Γ R cc nL "BinWard$Lorry" ret post mc ms G) {z : Int} {i : Nat} (hi : i < 3) (hd : Dc cc pc (.putfield 38) 3 n) (K : G cs n ls st (sU S 21 i 0 z)) : G cs pc ls (nt z :: rf Γ 20 i :: st) S :=
  r_put hG hd (k := 20) (i := i) (j := 5) (f := 21) (by decide) hi rfl rfl i_Lorry t_Lorry_ok n_Lorry (by decide) rfl (m_T2 (i := 69) (by decide +kernel) (by decide +kernel)) rfl (by decide +kernel) (by show 5 < 9; decide) rfl (by decide) (cs_21 Γ S i z) K
theorem g_Ward_219 (hG : IsG Γ R cc nL "BinWard" ret post mc ms G) {i : Nat} (hi : i < 3) (hd : Dc cc pc (.getfield 219) 3 n) (K : G cs n ls (nt (S 21 i 0) :: st) S) : G cs pc ls (rf Γ 20 i :: st) S :=
  r_get hG hd (k := 20) (i := i) (j := 5) (by decide) hi rfl rfl i_Lorry (by decide) rfl (m_T2 (i := 70) (by decide +kernel) (by decide +kernel)) rfl K
theorem p_Ward_219 (hG : IsG Γ R cc nL "BinWard" ret post mc ms G) {z : Int} {i : Nat} (hi : i < 3) (hd : Dc cc pc (.putfield 219) 3 n) (K : G cs n ls st (sU S 21 i 0 z)) : G cs pc ls (nt z :: rf Γ 20 i :: st) S :=
  r_put hG hd (k := 20) (i := i) (j := 5) (f := 21) (by decide) hi rfl rfl i_Lorry t_Lorry_ok n_Lorry (by decide) rfl (m_T2 (i := 70) (by decide +kernel) (by decide +kernel)) rfl (by decide +kernel) (by show 5 < 9; decide) rfl (by decide) (cs_21 Γ S i z) K
theorem g_Lorry_44 (hG : IsG Γ R cc nL "BinWard$Lorry" ret post mc ms G) {i : Nat} (hi : i < 3) (hd : Dc cc pc (.getfield 44) 3 n) (K : G cs n ls (nt (S 22 i 0) :: st) S) : G cs pc ls (rf Γ 20 i :: st) S :=
  r_get hG hd (k := 20) (i := i) (j := 6) (by decide) hi rfl rfl i_Lorry (by decide) rfl (m_T2 (i := 71) (by decide +kernel) (by decide +kernel)) rfl K
theorem p_Lorry_44 (hG : IsG Γ R cc nL "BinWard$Lorry" ret post mc ms G) {z : Int} {i : Nat} (hi : i < 3) (hd : Dc cc pc (.putfield 44) 3 n) (K : G cs n ls st (sU S 22 i 0 z)) : G cs pc ls (nt z :: rf Γ 20 i :: st) S :=
  r_put hG hd (k := 20) (i := i) (j := 6) (f := 22) (by decide) hi rfl rfl i_Lorry t_Lorry_ok n_Lorry (by decide) rfl (m_T2 (i := 71) (by decide +kernel) (by decide +kernel)) rfl (by decide +kernel) (by show 6 < 9; decide) rfl (by decide) (cs_22 Γ S i z) K
theorem g_Ward_222 (hG : IsG Γ R cc nL "BinWard" ret post mc ms G) {i : Nat} (hi : i < 3) (hd : Dc cc pc (.getfield 222) 3 n) (K : G cs n ls (nt (S 22 i 0) :: st) S) : G cs pc ls (rf Γ 20 i :: st) S :=
  r_get hG hd (k := 20) (i := i) (j := 6) (by decide) hi rfl rfl i_Lorry (by decide) rfl (m_T2 (i := 72) (by decide +kernel) (by decide +kernel)) rfl K
theorem p_Ward_222 (hG : IsG Γ R cc nL "BinWard" ret post mc ms G) {z : Int} {i : Nat} (hi : i < 3) (hd : Dc cc pc (.putfield 222) 3 n) (K : G cs n ls st (sU S 22 i 0 z)) : G cs pc ls (nt z :: rf Γ 20 i :: st) S :=
  r_put hG hd (k := 20) (i := i) (j := 6) (f := 22) (by decide) hi rfl rfl i_Lorry t_Lorry_ok n_Lorry (by decide) rfl (m_T2 (i := 72) (by decide +kernel) (by decide +kernel)) rfl (by decide +kernel) (by show 6 < 9; decide) rfl (by decide) (cs_22 Γ S i z) K
theorem g_Lorry_50 (hG : IsG Γ R cc nL "BinWard$Lorry" ret post mc ms G) {i : Nat} (hi : i < 3) (hd : Dc cc pc (.getfield 50) 3 n) (K : G cs n ls (nt (S 23 i 0) :: st) S) : G cs pc ls (rf Γ 20 i :: st) S :=
  r_get hG hd (k := 20) (i := i) (j := 7) (by decide) hi rfl rfl i_Lorry (by decide) rfl (m_T2 (i := 73) (by decide +kernel) (by decide +kernel)) rfl K
theorem p_Lorry_50 (hG : IsG Γ R cc nL "BinWard$Lorry" ret post mc ms G) {z : Int} {i : Nat} (hi : i < 3) (hd : Dc cc pc (.putfield 50) 3 n) (K : G cs n ls st (sU S 23 i 0 z)) : G cs pc ls (nt z :: rf Γ 20 i :: st) S :=
  r_put hG hd (k := 20) (i := i) (j := 7) (f := 23) (by decide) hi rfl rfl i_Lorry t_Lorry_ok n_Lorry (by decide) rfl (m_T2 (i := 73) (by decide +kernel) (by decide +kernel)) rfl (by decide +kernel) (by show 7 < 9; decide) rfl (by decide) (cs_23 Γ S i z) K
theorem g_Ward_225 (hG : IsG Γ R cc nL "BinWard" ret post mc ms G) {i : Nat} (hi : i < 3) (hd : Dc cc pc (.getfield 225) 3 n) (K : G cs n ls (nt (S 23 i 0) :: st) S) : G cs pc ls (rf Γ 20 i :: st) S :=
  r_get hG hd (k := 20) (i := i) (j := 7) (by decide) hi rfl rfl i_Lorry (by decide) rfl (m_T2 (i := 74) (by decide +kernel) (by decide +kernel)) rfl K
theorem p_Ward_225 (hG : IsG Γ R cc nL "BinWard" ret post mc ms G) {z : Int} {i : Nat} (hi : i < 3) (hd : Dc cc pc (.putfield 225) 3 n) (K : G cs n ls st (sU S 23 i 0 z)) : G cs pc ls (nt z :: rf Γ 20 i :: st) S :=
  r_put hG hd (k := 20) (i := i) (j := 7) (f := 23) (by decide) hi rfl rfl i_Lorry t_Lorry_ok n_Lorry (by decide) rfl (m_T2 (i := 74) (by decide +kernel) (by decide +kernel)) rfl (by decide +kernel) (by show 7 < 9; decide) rfl (by decide) (cs_23 Γ S i z) K
theorem g_Lorry_30 (hG : IsG Γ R cc nL "BinWard$Lorry" ret post mc ms G) {i : Nat} (hi : i < 3) (hd : Dc cc pc (.getfield 30) 3 n) (K : G cs n ls (nt (S 24 i 0) :: st) S) : G cs pc ls (rf Γ 20 i :: st) S :=
  r_get hG hd (k := 20) (i := i) (j := 8) (by decide) hi rfl rfl i_Lorry (by decide) rfl (m_T2 (i := 75) (by decide +kernel) (by decide +kernel)) rfl K
theorem p_Lorry_30 (hG : IsG Γ R cc nL "BinWard$Lorry" ret post mc ms G) {z : Int} {i : Nat} (hi : i < 3) (hd : Dc cc pc (.putfield 30) 3 n) (K : G cs n ls st (sU S 24 i 0 z)) : G cs pc ls (nt z :: rf Γ 20 i :: st) S :=
  r_put hG hd (k := 20) (i := i) (j := 8) (f := 24) (by decide) hi rfl rfl i_Lorry t_Lorry_ok n_Lorry (by decide) rfl (m_T2 (i := 75) (by decide +kernel) (by decide +kernel)) rfl (by decide +kernel) (by show 8 < 9; decide) rfl (by decide) (cs_24 Γ S i z) K
theorem g_Ward_228 (hG : IsG Γ R cc nL "BinWard" ret post mc ms G) {i : Nat} (hi : i < 3) (hd : Dc cc pc (.getfield 228) 3 n) (K : G cs n ls (nt (S 24 i 0) :: st) S) : G cs pc ls (rf Γ 20 i :: st) S :=
  r_get hG hd (k := 20) (i := i) (j := 8) (by decide) hi rfl rfl i_Lorry (by decide) rfl (m_T2 (i := 76) (by decide +kernel) (by decide +kernel)) rfl K
theorem p_Ward_228 (hG : IsG Γ R cc nL "BinWard" ret post mc ms G) {z : Int} {i : Nat} (hi : i < 3) (hd : Dc cc pc (.putfield 228) 3 n) (K : G cs n ls st (sU S 24 i 0 z)) : G cs pc ls (nt z :: rf Γ 20 i :: st) S :=
  r_put hG hd (k := 20) (i := i) (j := 8) (f := 24) (by decide) hi rfl rfl i_Lorry t_Lorry_ok n_Lorry (by decide) rfl (m_T2 (i := 76) (by decide +kernel) (by decide +kernel)) rfl (by decide +kernel) (by show 8 < 9; decide) rfl (by decide) (cs_24 Γ S i z) K
theorem g_Ward_11 (hG : IsG Γ R cc nL "BinWard" ret post mc ms G) (hd : Dc cc pc (.getfield 11) 3 n) (K : G cs n ls (rf Γ 1 0 :: st) S) : G cs pc ls (rf Γ 0 0 :: st) S :=
  r_get hG hd (k := 0) (i := 0) (j := 0) (by decide) (by decide) rfl rfl i_Ward (by decide) rfl (m_T2 (i := 96) (by decide +kernel) (by decide +kernel)) rfl K
theorem g_Ward_15 (hG : IsG Γ R cc nL "BinWard" ret post mc ms G) (hd : Dc cc pc (.getfield 15) 3 n) (K : G cs n ls (rf Γ 1 1 :: st) S) : G cs pc ls (rf Γ 0 0 :: st) S :=
  r_get hG hd (k := 0) (i := 0) (j := 1) (by decide) (by decide) rfl rfl i_Ward (by decide) rfl (m_T2 (i := 97) (by decide +kernel) (by decide +kernel)) rfl K
theorem g_Ward_86 (hG : IsG Γ R cc nL "BinWard" ret post mc ms G) (hd : Dc cc pc (.getfield 86) 3 n) (K : G cs n ls (nt (S 0 0 0) :: st) S) : G cs pc ls (rf Γ 0 0 :: st) S :=
  r_get hG hd (k := 0) (i := 0) (j := 2) (by decide) (by decide) rfl rfl i_Ward (by decide) rfl (m_T2 (i := 98) (by decide +kernel) (by decide +kernel)) rfl K
theorem p_Ward_86 (hG : IsG Γ R cc nL "BinWard" ret post mc ms G) {z : Int} (hd : Dc cc pc (.putfield 86) 3 n) (K : G cs n ls st (sU S 0 0 0 z)) : G cs pc ls (nt z :: rf Γ 0 0 :: st) S :=
  r_put hG hd (k := 0) (i := 0) (j := 2) (f := 0) (by decide) (by decide) rfl rfl i_Ward t_Ward_ok n_Ward (by decide) rfl (m_T2 (i := 98) (by decide +kernel) (by decide +kernel)) rfl (by decide +kernel) (by show 2 < 15; decide) rfl (by decide) (cs_0 Γ S 0 z) K
theorem g_Ward_20 (hG : IsG Γ R cc nL "BinWard" ret post mc ms G) (hd : Dc cc pc (.getfield 20) 3 n) (K : G cs n ls (rf Γ 2 0 :: st) S) : G cs pc ls (rf Γ 0 0 :: st) S :=
  r_get hG hd (k := 0) (i := 0) (j := 3) (by decide) (by decide) rfl rfl i_Ward (by decide) rfl (m_T2 (i := 99) (by decide +kernel) (by decide +kernel)) rfl K
theorem g_Ward_115 (hG : IsG Γ R cc nL "BinWard" ret post mc ms G) (hd : Dc cc pc (.getfield 115) 3 n) (K : G cs n ls (nt (S 1 0 0) :: st) S) : G cs pc ls (rf Γ 0 0 :: st) S :=
  r_get hG hd (k := 0) (i := 0) (j := 4) (by decide) (by decide) rfl rfl i_Ward (by decide) rfl (m_T2 (i := 100) (by decide +kernel) (by decide +kernel)) rfl K
theorem p_Ward_115 (hG : IsG Γ R cc nL "BinWard" ret post mc ms G) {z : Int} (hd : Dc cc pc (.putfield 115) 3 n) (K : G cs n ls st (sU S 1 0 0 z)) : G cs pc ls (nt z :: rf Γ 0 0 :: st) S :=
  r_put hG hd (k := 0) (i := 0) (j := 4) (f := 1) (by decide) (by decide) rfl rfl i_Ward t_Ward_ok n_Ward (by decide) rfl (m_T2 (i := 100) (by decide +kernel) (by decide +kernel)) rfl (by decide +kernel) (by show 4 < 15; decide) rfl (by decide) (cs_1 Γ S 0 z) K
theorem g_Ward_27 (hG : IsG Γ R cc nL "BinWard" ret post mc ms G) (hd : Dc cc pc (.getfield 27) 3 n) (K : G cs n ls (rf Γ 3 3 :: st) S) : G cs pc ls (rf Γ 0 0 :: st) S :=
  r_get hG hd (k := 0) (i := 0) (j := 5) (by decide) (by decide) rfl rfl i_Ward (by decide) rfl (m_T2 (i := 101) (by decide +kernel) (by decide +kernel)) rfl K
theorem g_Ward_34 (hG : IsG Γ R cc nL "BinWard" ret post mc ms G) (hd : Dc cc pc (.getfield 34) 3 n) (K : G cs n ls (rf Γ 6 0 :: st) S) : G cs pc ls (rf Γ 0 0 :: st) S :=
  r_get hG hd (k := 0) (i := 0) (j := 6) (by decide) (by decide) rfl rfl i_Ward (by decide) rfl (m_T2 (i := 102) (by decide +kernel) (by decide +kernel)) rfl K
theorem g_Ward_41 (hG : IsG Γ R cc nL "BinWard" ret post mc ms G) (hd : Dc cc pc (.getfield 41) 3 n) (K : G cs n ls (rf Γ 7 0 :: st) S) : G cs pc ls (rf Γ 0 0 :: st) S :=
  r_get hG hd (k := 0) (i := 0) (j := 7) (by decide) (by decide) rfl rfl i_Ward (by decide) rfl (m_T2 (i := 103) (by decide +kernel) (by decide +kernel)) rfl K
theorem g_Ward_48 (hG : IsG Γ R cc nL "BinWard" ret post mc ms G) (hd : Dc cc pc (.getfield 48) 3 n) (K : G cs n ls (rf Γ 8 0 :: st) S) : G cs pc ls (rf Γ 0 0 :: st) S :=
  r_get hG hd (k := 0) (i := 0) (j := 8) (by decide) (by decide) rfl rfl i_Ward (by decide) rfl (m_T2 (i := 104) (by decide +kernel) (by decide +kernel)) rfl K
theorem g_Ward_55 (hG : IsG Γ R cc nL "BinWard" ret post mc ms G) (hd : Dc cc pc (.getfield 55) 3 n) (K : G cs n ls (rf Γ 9 0 :: st) S) : G cs pc ls (rf Γ 0 0 :: st) S :=
  r_get hG hd (k := 0) (i := 0) (j := 9) (by decide) (by decide) rfl rfl i_Ward (by decide) rfl (m_T2 (i := 105) (by decide +kernel) (by decide +kernel)) rfl K
theorem g_Ward_62 (hG : IsG Γ R cc nL "BinWard" ret post mc ms G) (hd : Dc cc pc (.getfield 62) 3 n) (K : G cs n ls (rf Γ 12 0 :: st) S) : G cs pc ls (rf Γ 0 0 :: st) S :=
  r_get hG hd (k := 0) (i := 0) (j := 10) (by decide) (by decide) rfl rfl i_Ward (by decide) rfl (m_T2 (i := 106) (by decide +kernel) (by decide +kernel)) rfl K
theorem g_Ward_69 (hG : IsG Γ R cc nL "BinWard" ret post mc ms G) (hd : Dc cc pc (.getfield 69) 3 n) (K : G cs n ls (rf Γ 13 0 :: st) S) : G cs pc ls (rf Γ 0 0 :: st) S :=
  r_get hG hd (k := 0) (i := 0) (j := 11) (by decide) (by decide) rfl rfl i_Ward (by decide) rfl (m_T2 (i := 107) (by decide +kernel) (by decide +kernel)) rfl K
theorem g_Ward_76 (hG : IsG Γ R cc nL "BinWard" ret post mc ms G) (hd : Dc cc pc (.getfield 76) 3 n) (K : G cs n ls (rf Γ 14 0 :: st) S) : G cs pc ls (rf Γ 0 0 :: st) S :=
  r_get hG hd (k := 0) (i := 0) (j := 12) (by decide) (by decide) rfl rfl i_Ward (by decide) rfl (m_T2 (i := 108) (by decide +kernel) (by decide +kernel)) rfl K
theorem g_Ward_187 (hG : IsG Γ R cc nL "BinWard" ret post mc ms G) (hd : Dc cc pc (.getfield 187) 3 n) (K : G cs n ls (nt (S 2 0 0) :: st) S) : G cs pc ls (rf Γ 0 0 :: st) S :=
  r_get hG hd (k := 0) (i := 0) (j := 13) (by decide) (by decide) rfl rfl i_Ward (by decide) rfl (m_T2 (i := 109) (by decide +kernel) (by decide +kernel)) rfl K
theorem p_Ward_187 (hG : IsG Γ R cc nL "BinWard" ret post mc ms G) {z : Int} (hd : Dc cc pc (.putfield 187) 3 n) (K : G cs n ls st (sU S 2 0 0 z)) : G cs pc ls (nt z :: rf Γ 0 0 :: st) S :=
  r_put hG hd (k := 0) (i := 0) (j := 13) (f := 2) (by decide) (by decide) rfl rfl i_Ward t_Ward_ok n_Ward (by decide) rfl (m_T2 (i := 109) (by decide +kernel) (by decide +kernel)) rfl (by decide +kernel) (by show 13 < 15; decide) rfl (by decide) (cs_2 Γ S 0 z) K
theorem g_Ward_169 (hG : IsG Γ R cc nL "BinWard" ret post mc ms G) (hd : Dc cc pc (.getfield 169) 3 n) (K : G cs n ls (nt (S 3 0 0) :: st) S) : G cs pc ls (rf Γ 0 0 :: st) S :=
  r_get hG hd (k := 0) (i := 0) (j := 14) (by decide) (by decide) rfl rfl i_Ward (by decide) rfl (m_T2 (i := 110) (by decide +kernel) (by decide +kernel)) rfl K
theorem p_Ward_169 (hG : IsG Γ R cc nL "BinWard" ret post mc ms G) {z : Int} (hd : Dc cc pc (.putfield 169) 3 n) (K : G cs n ls st (sU S 3 0 0 z)) : G cs pc ls (nt z :: rf Γ 0 0 :: st) S :=
  r_put hG hd (k := 0) (i := 0) (j := 14) (f := 3) (by decide) (by decide) rfl rfl i_Ward t_Ward_ok n_Ward (by decide) rfl (m_T2 (i := 110) (by decide +kernel) (by decide +kernel)) rfl (by decide +kernel) (by show 14 < 15; decide) rfl (by decide) (cs_3 Γ S 0 z) K
theorem a_4 (hG : IsG Γ R cc nL own ret post mc ms G) {i j : Nat} {z : Int} (hd : Dc cc pc .iaload 1 n) (hz : z = (j : Int)) (hj : j < 2) (hi : i < 4) (K : G cs n ls (nt (S 34 i j) :: st) S) : G cs pc ls (nt z :: rf Γ 4 i :: st) S := r_iald hG (k := 4) (N := 2) (f := 34) hd hz hj (by decide) (by decide) hi rfl K
theorem s_4 (hG : IsG Γ R cc nL own ret post mc ms G) {i j : Nat} {z x : Int} (hd : Dc cc pc .iastore 1 n) (hz : z = (j : Int)) (hj : j < 2) (hi : i < 4) (K : G cs n ls st (sU S 34 i j x)) : G cs pc ls (nt x :: nt z :: rf Γ 4 i :: st) S := r_iast hG (k := 4) (N := 2) (f := 34) hd hz hj (by decide) (by decide) hi rfl rfl (by decide) (cs_34 Γ S i j x) K
theorem a_5 (hG : IsG Γ R cc nL own ret post mc ms G) {i j : Nat} {z : Int} (hd : Dc cc pc .iaload 1 n) (hz : z = (j : Int)) (hj : j < 2) (hi : i < 4) (K : G cs n ls (nt (S 35 i j) :: st) S) : G cs pc ls (nt z :: rf Γ 5 i :: st) S := r_iald hG (k := 5) (N := 2) (f := 35) hd hz hj (by decide) (by decide) hi rfl K
theorem s_5 (hG : IsG Γ R cc nL own ret post mc ms G) {i j : Nat} {z x : Int} (hd : Dc cc pc .iastore 1 n) (hz : z = (j : Int)) (hj : j < 2) (hi : i < 4) (K : G cs n ls st (sU S 35 i j x)) : G cs pc ls (nt x :: nt z :: rf Γ 5 i :: st) S := r_iast hG (k := 5) (N := 2) (f := 35) hd hz hj (by decide) (by decide) hi rfl rfl (by decide) (cs_35 Γ S i j x) K
theorem a_16 (hG : IsG Γ R cc nL own ret post mc ms G) {i j : Nat} {z : Int} (hd : Dc cc pc .iaload 1 n) (hz : z = (j : Int)) (hj : j < 3) (hi : i < 12) (K : G cs n ls (nt (S 15 i j) :: st) S) : G cs pc ls (nt z :: rf Γ 16 i :: st) S := r_iald hG (k := 16) (N := 3) (f := 15) hd hz hj (by decide) (by decide) hi rfl K
theorem s_16 (hG : IsG Γ R cc nL own ret post mc ms G) {i j : Nat} {z x : Int} (hd : Dc cc pc .iastore 1 n) (hz : z = (j : Int)) (hj : j < 3) (hi : i < 12) (K : G cs n ls st (sU S 15 i j x)) : G cs pc ls (nt x :: nt z :: rf Γ 16 i :: st) S := r_iast hG (k := 16) (N := 3) (f := 15) hd hz hj (by decide) (by decide) hi rfl rfl (by decide) (cs_15 Γ S i j x) K
theorem a_17 (hG : IsG Γ R cc nL own ret post mc ms G) {i j : Nat} {z : Int} (hd : Dc cc pc .iaload 1 n) (hz : z = (j : Int)) (hj : j < 3) (hi : i < 12) (K : G cs n ls (nt (S 16 i j) :: st) S) : G cs pc ls (nt z :: rf Γ 17 i :: st) S := r_iald hG (k := 17) (N := 3) (f := 16) hd hz hj (by decide) (by decide) hi rfl K
theorem s_17 (hG : IsG Γ R cc nL own ret post mc ms G) {i j : Nat} {z x : Int} (hd : Dc cc pc .iastore 1 n) (hz : z = (j : Int)) (hj : j < 3) (hi : i < 12) (K : G cs n ls st (sU S 16 i j x)) : G cs pc ls (nt x :: nt z :: rf Γ 17 i :: st) S := r_iast hG (k := 17) (N := 3) (f := 16) hd hz hj (by decide) (by decide) hi rfl rfl (by decide) (cs_16 Γ S i j x) K
theorem a_18 (hG : IsG Γ R cc nL own ret post mc ms G) {i j : Nat} {z : Int} (hd : Dc cc pc .iaload 1 n) (hz : z = (j : Int)) (hj : j < 3) (hi : i < 12) (K : G cs n ls (nt (S 17 i j) :: st) S) : G cs pc ls (nt z :: rf Γ 18 i :: st) S := r_iald hG (k := 18) (N := 3) (f := 17) hd hz hj (by decide) (by decide) hi rfl K
theorem s_18 (hG : IsG Γ R cc nL own ret post mc ms G) {i j : Nat} {z x : Int} (hd : Dc cc pc .iastore 1 n) (hz : z = (j : Int)) (hj : j < 3) (hi : i < 12) (K : G cs n ls st (sU S 17 i j x)) : G cs pc ls (nt x :: nt z :: rf Γ 18 i :: st) S := r_iast hG (k := 18) (N := 3) (f := 17) hd hz hj (by decide) (by decide) hi rfl rfl (by decide) (cs_17 Γ S i j x) K
theorem a_19 (hG : IsG Γ R cc nL own ret post mc ms G) {i j : Nat} {z : Int} (hd : Dc cc pc .iaload 1 n) (hz : z = (j : Int)) (hj : j < 3) (hi : i < 12) (K : G cs n ls (nt (S 18 i j) :: st) S) : G cs pc ls (nt z :: rf Γ 19 i :: st) S := r_iald hG (k := 19) (N := 3) (f := 18) hd hz hj (by decide) (by decide) hi rfl K
theorem s_19 (hG : IsG Γ R cc nL own ret post mc ms G) {i j : Nat} {z x : Int} (hd : Dc cc pc .iastore 1 n) (hz : z = (j : Int)) (hj : j < 3) (hi : i < 12) (K : G cs n ls st (sU S 18 i j x)) : G cs pc ls (nt x :: nt z :: rf Γ 19 i :: st) S := r_iast hG (k := 19) (N := 3) (f := 18) hd hz hj (by decide) (by decide) hi rfl rfl (by decide) (cs_18 Γ S i j x) K
theorem a_21 (hG : IsG Γ R cc nL own ret post mc ms G) {i j : Nat} {z : Int} (hd : Dc cc pc .iaload 1 n) (hz : z = (j : Int)) (hj : j < 2) (hi : i < 3) (K : G cs n ls (nt (S 25 i j) :: st) S) : G cs pc ls (nt z :: rf Γ 21 i :: st) S := r_iald hG (k := 21) (N := 2) (f := 25) hd hz hj (by decide) (by decide) hi rfl K
theorem s_21 (hG : IsG Γ R cc nL own ret post mc ms G) {i j : Nat} {z x : Int} (hd : Dc cc pc .iastore 1 n) (hz : z = (j : Int)) (hj : j < 2) (hi : i < 3) (K : G cs n ls st (sU S 25 i j x)) : G cs pc ls (nt x :: nt z :: rf Γ 21 i :: st) S := r_iast hG (k := 21) (N := 2) (f := 25) hd hz hj (by decide) (by decide) hi rfl rfl (by decide) (cs_25 Γ S i j x) K
theorem a_23 (hG : IsG Γ R cc nL own ret post mc ms G) {i j : Nat} {z : Int} (hd : Dc cc pc .iaload 1 n) (hz : z = (j : Int)) (hj : j < 6) (hi : i < 21) (K : G cs n ls (nt (S 27 i j) :: st) S) : G cs pc ls (nt z :: rf Γ 23 i :: st) S := r_iald hG (k := 23) (N := 6) (f := 27) hd hz hj (by decide) (by decide) hi rfl K
theorem s_23 (hG : IsG Γ R cc nL own ret post mc ms G) {i j : Nat} {z x : Int} (hd : Dc cc pc .iastore 1 n) (hz : z = (j : Int)) (hj : j < 6) (hi : i < 21) (K : G cs n ls st (sU S 27 i j x)) : G cs pc ls (nt x :: nt z :: rf Γ 23 i :: st) S := r_iast hG (k := 23) (N := 6) (f := 27) hd hz hj (by decide) (by decide) hi rfl rfl (by decide) (cs_27 Γ S i j x) K
theorem a_24 (hG : IsG Γ R cc nL own ret post mc ms G) {i j : Nat} {z : Int} (hd : Dc cc pc .iaload 1 n) (hz : z = (j : Int)) (hj : j < 7) (hi : i < 3) (K : G cs n ls (nt (S 26 i j) :: st) S) : G cs pc ls (nt z :: rf Γ 24 i :: st) S := r_iald hG (k := 24) (N := 7) (f := 26) hd hz hj (by decide) (by decide) hi rfl K
theorem s_24 (hG : IsG Γ R cc nL own ret post mc ms G) {i j : Nat} {z x : Int} (hd : Dc cc pc .iastore 1 n) (hz : z = (j : Int)) (hj : j < 7) (hi : i < 3) (K : G cs n ls st (sU S 26 i j x)) : G cs pc ls (nt x :: nt z :: rf Γ 24 i :: st) S := r_iast hG (k := 24) (N := 7) (f := 26) hd hz hj (by decide) (by decide) hi rfl rfl (by decide) (cs_26 Γ S i j x) K
theorem a_1 (hG : IsG Γ R cc nL own ret post mc ms G) {i j : Nat} {z : Int} (hd : Dc cc pc .aaload 1 n) (hz : z = (j : Int)) (hj : j < 6) (hi : i < 2) (K : G cs n ls (rf Γ 15 (2 * j + i) :: st) S) : G cs pc ls (nt z :: rf Γ 1 i :: st) S := r_aald hG (k := 1) (N := 6) (t0 := 1) (q := 1) (g := fun j => off 15 (2 * j + i)) hd hz hj (by decide) (by decide) hi rfl rfl K
theorem a_2 (hG : IsG Γ R cc nL own ret post mc ms G) {i j : Nat} {z : Int} (hd : Dc cc pc .aaload 1 n) (hz : z = (j : Int)) (hj : j < 3) (hi : i < 1) (K : G cs n ls (rf Γ 20 j :: st) S) : G cs pc ls (nt z :: rf Γ 2 i :: st) S := r_aald hG (k := 2) (N := 3) (t0 := 2) (q := 2) (g := fun j => off 20 j) hd hz hj (by decide) (by decide) hi rfl rfl K
theorem a_10 (hG : IsG Γ R cc nL own ret post mc ms G) {i j : Nat} {z : Int} (hd : Dc cc pc .aaload 1 n) (hz : z = (j : Int)) (hj : j < 20) (hi : i < 1) (K : G cs n ls (rf Γ 11 j :: st) S) : G cs pc ls (nt z :: rf Γ 10 i :: st) S := r_aald hG (k := 10) (N := 20) (t0 := 3) (q := 3) (g := fun j => off 11 j) hd hz hj (by decide) (by decide) hi rfl rfl K
end CR
theorem rc_0 : rcv 0 "BinWard" := ⟨11, F_Ward, 15, rfl, fun _ _ _ => ⟨_, rfl⟩⟩
theorem rc_3 : rcv 3 "BinWard$Trip" := ⟨10, F_Trip, 6, rfl, fun _ _ _ => ⟨_, rfl⟩⟩
theorem rc_6 : rcv 6 "BinWard$Search" := ⟨8, F_Search, 3, rfl, fun _ _ _ => ⟨_, rfl⟩⟩
theorem rc_7 : rcv 7 "BinWard$Diary" := ⟨2, F_Diary, 1, rfl, fun _ _ _ => ⟨_, rfl⟩⟩
theorem rc_8 : rcv 8 "BinWard$Line" := ⟨5, F_Line, 3, rfl, fun _ _ _ => ⟨_, rfl⟩⟩
theorem rc_9 : rcv 9 "BinWard$Baler" := ⟨1, F_Baler, 4, rfl, fun _ _ _ => ⟨_, rfl⟩⟩
theorem rc_11 : rcv 11 "BinWard$Bale" := ⟨0, F_Bale, 4, rfl, fun _ _ _ => ⟨_, rfl⟩⟩
theorem rc_12 : rcv 12 "BinWard$Furnace" := ⟨3, F_Furnace, 5, rfl, fun _ _ _ => ⟨_, rfl⟩⟩
theorem rc_13 : rcv 13 "BinWard$Heap" := ⟨4, F_Heap, 5, rfl, fun _ _ _ => ⟨_, rfl⟩⟩
theorem rc_14 : rcv 14 "BinWard$Pit" := ⟨7, F_Pit, 4, rfl, fun _ _ _ => ⟨_, rfl⟩⟩
theorem rc_15 : rcv 15 "BinWard$Street" := ⟨9, F_Street, 9, rfl, fun _ _ _ => ⟨_, rfl⟩⟩
theorem rc_20 : rcv 20 "BinWard$Lorry" := ⟨6, F_Lorry, 9, rfl, fun _ _ _ => ⟨_, rfl⟩⟩
theorem w_Law_22 : kwV "BinWardLaw" 22 y_Ward_street b_Ward_street 4 ((some FieldType.int)) 2 := ⟨(m_T2 (i := 142) (by decide +kernel) (by decide +kernel)), (m_T2 (i := 143) (by decide +kernel) (by decide +kernel)), (m_T2 (i := 144) (by decide +kernel) (by decide +kernel)), (m_T1 (i := 1) (by decide +kernel) (by decide +kernel)), (m_T2 (i := 145) (by decide +kernel) (by decide +kernel)), ⟨by decide, by decide⟩, by decide +kernel⟩
theorem w_Ward_82 : kwS "BinWard" 82 y_Ward_checkValue b_Ward_checkValue 3 ((none : Option FieldType)) 3 := ⟨(m_T2 (i := 146) (by decide +kernel) (by decide +kernel)), (m_T2 (i := 147) (by decide +kernel) (by decide +kernel)), (m_T1 (i := 1) (by decide +kernel) (by decide +kernel)), (m_T2 (i := 148) (by decide +kernel) (by decide +kernel)), ⟨by decide, by decide⟩, by decide +kernel⟩
theorem w_Law_25 : kwV "BinWardLaw" 25 y_Ward_habit b_Ward_habit 6 ((some FieldType.int)) 3 := ⟨(m_T2 (i := 233) (by decide +kernel) (by decide +kernel)), (m_T2 (i := 234) (by decide +kernel) (by decide +kernel)), (m_T2 (i := 235) (by decide +kernel) (by decide +kernel)), (m_T1 (i := 1) (by decide +kernel) (by decide +kernel)), (m_T2 (i := 236) (by decide +kernel) (by decide +kernel)), ⟨by decide, by decide⟩, by decide +kernel⟩
theorem w_Ward_103 : kwV "BinWard" 103 y_Ward_streetAt b_Ward_streetAt 2 ((some (FieldType.object "BinWard$Street"))) 1 := ⟨(m_T2 (i := 237) (by decide +kernel) (by decide +kernel)), (m_T2 (i := 239) (by decide +kernel) (by decide +kernel)), (m_P (i := 1) (by decide +kernel) (by decide +kernel)), (m_T1 (i := 1) (by decide +kernel) (by decide +kernel)), (m_T3 (i := 0) (by decide +kernel) (by decide +kernel)), ⟨by decide, by decide⟩, by decide +kernel⟩
theorem w_Ward_107 : kwS "BinWard" 107 y_Ward_checkIndex b_Ward_checkIndex 2 ((none : Option FieldType)) 2 := ⟨(m_T3 (i := 1) (by decide +kernel) (by decide +kernel)), (m_T3 (i := 2) (by decide +kernel) (by decide +kernel)), (m_T1 (i := 1) (by decide +kernel) (by decide +kernel)), (m_T3 (i := 3) (by decide +kernel) (by decide +kernel)), ⟨by decide, by decide⟩, by decide +kernel⟩
theorem w_Law_42 : kwV "BinWardLaw" 42 y_Ward_dirt b_Ward_dirt 5 ((some FieldType.int)) 2 := ⟨(m_T3 (i := 20) (by decide +kernel) (by decide +kernel)), (m_T3 (i := 21) (by decide +kernel) (by decide +kernel)), (m_T3 (i := 22) (by decide +kernel) (by decide +kernel)), (m_T1 (i := 1) (by decide +kernel) (by decide +kernel)), (m_T3 (i := 23) (by decide +kernel) (by decide +kernel)), ⟨by decide, by decide⟩, by decide +kernel⟩
theorem w_Law_29 : kwV "BinWardLaw" 29 y_Ward_lorry b_Ward_lorry 5 ((some FieldType.int)) 3 := ⟨(m_T3 (i := 24) (by decide +kernel) (by decide +kernel)), (m_T3 (i := 25) (by decide +kernel) (by decide +kernel)), (m_T3 (i := 26) (by decide +kernel) (by decide +kernel)), (m_T1 (i := 1) (by decide +kernel) (by decide +kernel)), (m_T3 (i := 27) (by decide +kernel) (by decide +kernel)), ⟨by decide, by decide⟩, by decide +kernel⟩
theorem w_Law_48 : kwV "BinWardLaw" 48 y_Ward_round b_Ward_round 5 ((some FieldType.int)) 3 := ⟨(m_T3 (i := 29) (by decide +kernel) (by decide +kernel)), (m_T3 (i := 30) (by decide +kernel) (by decide +kernel)), (m_T3 (i := 31) (by decide +kernel) (by decide +kernel)), (m_T1 (i := 1) (by decide +kernel) (by decide +kernel)), (m_T3 (i := 32) (by decide +kernel) (by decide +kernel)), ⟨by decide, by decide⟩, by decide +kernel⟩
theorem w_Ward_126 : kwV "BinWard" 126 y_Ward_lorryAt b_Ward_lorryAt 2 ((some (FieldType.object "BinWard$Lorry"))) 1 := ⟨(m_T3 (i := 33) (by decide +kernel) (by decide +kernel)), (m_T3 (i := 35) (by decide +kernel) (by decide +kernel)), (m_P (i := 2) (by decide +kernel) (by decide +kernel)), (m_T1 (i := 1) (by decide +kernel) (by decide +kernel)), (m_T3 (i := 36) (by decide +kernel) (by decide +kernel)), ⟨by decide, by decide⟩, by decide +kernel⟩
theorem w_Ward_130 : kwV "BinWard" 130 y_Lorry_comesTo b_Lorry_comesTo 4 ((some FieldType.boolean)) 2 := ⟨(m_T3 (i := 37) (by decide +kernel) (by decide +kernel)), (m_T3 (i := 38) (by decide +kernel) (by decide +kernel)), (m_T3 (i := 39) (by decide +kernel) (by decide +kernel)), (m_T1 (i := 12) (by decide +kernel) (by decide +kernel)), (m_T3 (i := 40) (by decide +kernel) (by decide +kernel)), ⟨by decide, by decide⟩, by decide +kernel⟩
theorem w_Ward_136 : kwV "BinWard" 136 y_Lorry_addToRound b_Lorry_addToRound 4 ((none : Option FieldType)) 2 := ⟨(m_T3 (i := 42) (by decide +kernel) (by decide +kernel)), (m_T3 (i := 43) (by decide +kernel) (by decide +kernel)), (m_T3 (i := 44) (by decide +kernel) (by decide +kernel)), (m_T1 (i := 12) (by decide +kernel) (by decide +kernel)), (m_T3 (i := 45) (by decide +kernel) (by decide +kernel)), ⟨by decide, by decide⟩, by decide +kernel⟩
theorem w_Law_45 : kwV "BinWardLaw" 45 y_Ward_clear b_Ward_clear 5 ((some FieldType.int)) 2 := ⟨(m_T3 (i := 46) (by decide +kernel) (by decide +kernel)), (m_T3 (i := 47) (by decide +kernel) (by decide +kernel)), (m_T3 (i := 48) (by decide +kernel) (by decide +kernel)), (m_T1 (i := 1) (by decide +kernel) (by decide +kernel)), (m_T3 (i := 49) (by decide +kernel) (by decide +kernel)), ⟨by decide, by decide⟩, by decide +kernel⟩
theorem w_Law_32 : kwV "BinWardLaw" 32 y_Ward_eye b_Ward_eye 3 ((some FieldType.int)) 1 := ⟨(m_T3 (i := 50) (by decide +kernel) (by decide +kernel)), (m_T3 (i := 51) (by decide +kernel) (by decide +kernel)), (m_T3 (i := 52) (by decide +kernel) (by decide +kernel)), (m_T1 (i := 1) (by decide +kernel) (by decide +kernel)), (m_T3 (i := 53) (by decide +kernel) (by decide +kernel)), ⟨by decide, by decide⟩, by decide +kernel⟩
theorem w_Law_36 : kwV "BinWardLaw" 36 y_Ward_hand b_Ward_hand 3 ((some FieldType.int)) 1 := ⟨(m_T3 (i := 54) (by decide +kernel) (by decide +kernel)), (m_T3 (i := 55) (by decide +kernel) (by decide +kernel)), (m_T3 (i := 56) (by decide +kernel) (by decide +kernel)), (m_T1 (i := 1) (by decide +kernel) (by decide +kernel)), (m_T3 (i := 57) (by decide +kernel) (by decide +kernel)), ⟨by decide, by decide⟩, by decide +kernel⟩
theorem w_Law_39 : kwV "BinWardLaw" 39 y_Ward_oven b_Ward_oven 3 ((some FieldType.int)) 1 := ⟨(m_T3 (i := 58) (by decide +kernel) (by decide +kernel)), (m_T3 (i := 59) (by decide +kernel) (by decide +kernel)), (m_T3 (i := 60) (by decide +kernel) (by decide +kernel)), (m_T1 (i := 1) (by decide +kernel) (by decide +kernel)), (m_T3 (i := 61) (by decide +kernel) (by decide +kernel)), ⟨by decide, by decide⟩, by decide +kernel⟩
theorem w_Law_63 : kwV "BinWardLaw" 63 y_Ward_sell b_Ward_sell 6 ((some FieldType.boolean)) 3 := ⟨(m_T3 (i := 62) (by decide +kernel) (by decide +kernel)), (m_T3 (i := 63) (by decide +kernel) (by decide +kernel)), (m_T3 (i := 64) (by decide +kernel) (by decide +kernel)), (m_T1 (i := 1) (by decide +kernel) (by decide +kernel)), (m_T3 (i := 65) (by decide +kernel) (by decide +kernel)), ⟨by decide, by decide⟩, by decide +kernel⟩
theorem w_Ward_155 : kwV "BinWard" 155 y_Ward_baleAt b_Ward_baleAt 2 ((some (FieldType.object "BinWard$Bale"))) 1 := ⟨(m_T3 (i := 66) (by decide +kernel) (by decide +kernel)), (m_T3 (i := 68) (by decide +kernel) (by decide +kernel)), (m_P (i := 3) (by decide +kernel) (by decide +kernel)), (m_T1 (i := 1) (by decide +kernel) (by decide +kernel)), (m_T3 (i := 69) (by decide +kernel) (by decide +kernel)), ⟨by decide, by decide⟩, by decide +kernel⟩
theorem w_Law_67 : kwV "BinWardLaw" 67 y_Ward_opn b_Ward_opn 3 ((some FieldType.int)) 1 := ⟨(m_T3 (i := 71) (by decide +kernel) (by decide +kernel)), (m_T3 (i := 72) (by decide +kernel) (by decide +kernel)), (m_T3 (i := 73) (by decide +kernel) (by decide +kernel)), (m_T1 (i := 1) (by decide +kernel) (by decide +kernel)), (m_T3 (i := 74) (by decide +kernel) (by decide +kernel)), ⟨by decide, by decide⟩, by decide +kernel⟩
theorem w_Ward_174 : kwV "BinWard" 174 y_Baler_unpack b_Baler_unpack 2 ((none : Option FieldType)) 1 := ⟨(m_T3 (i := 76) (by decide +kernel) (by decide +kernel)), (m_T3 (i := 77) (by decide +kernel) (by decide +kernel)), (m_T3 (i := 78) (by decide +kernel) (by decide +kernel)), (m_T1 (i := 6) (by decide +kernel) (by decide +kernel)), (m_T3 (i := 79) (by decide +kernel) (by decide +kernel)), ⟨by decide, by decide⟩, by decide +kernel⟩
theorem w_Ward_178 : kwV "BinWard" 178 y_Baler_kilos b_Baler_kilos 1 ((some FieldType.int)) 0 := ⟨(m_T3 (i := 80) (by decide +kernel) (by decide +kernel)), (m_T3 (i := 81) (by decide +kernel) (by decide +kernel)), (m_T3 (i := 82) (by decide +kernel) (by decide +kernel)), (m_T1 (i := 6) (by decide +kernel) (by decide +kernel)), (m_T3 (i := 83) (by decide +kernel) (by decide +kernel)), ⟨by decide, by decide⟩, by decide +kernel⟩
theorem w_Law_54 : kwV "BinWardLaw" 54 y_Ward_sweep b_Ward_sweep 4 ((some FieldType.int)) 1 := ⟨(m_T3 (i := 84) (by decide +kernel) (by decide +kernel)), (m_T3 (i := 85) (by decide +kernel) (by decide +kernel)), (m_T3 (i := 86) (by decide +kernel) (by decide +kernel)), (m_T1 (i := 1) (by decide +kernel) (by decide +kernel)), (m_T3 (i := 87) (by decide +kernel) (by decide +kernel)), ⟨by decide, by decide⟩, by decide +kernel⟩
theorem w_Ward_184 : kwV "BinWard" 184 y_Pit_takeIn b_Pit_takeIn 3 ((none : Option FieldType)) 2 := ⟨(m_T3 (i := 88) (by decide +kernel) (by decide +kernel)), (m_T3 (i := 89) (by decide +kernel) (by decide +kernel)), (m_T3 (i := 90) (by decide +kernel) (by decide +kernel)), (m_T1 (i := 10) (by decide +kernel) (by decide +kernel)), (m_T3 (i := 91) (by decide +kernel) (by decide +kernel)), ⟨by decide, by decide⟩, by decide +kernel⟩
theorem w_Law_51 : kwV "BinWardLaw" 51 y_Ward_ofStreet b_Ward_ofStreet 4 ((some FieldType.int)) 2 := ⟨(m_T3 (i := 92) (by decide +kernel) (by decide +kernel)), (m_T3 (i := 93) (by decide +kernel) (by decide +kernel)), (m_T3 (i := 94) (by decide +kernel) (by decide +kernel)), (m_T1 (i := 1) (by decide +kernel) (by decide +kernel)), (m_T3 (i := 95) (by decide +kernel) (by decide +kernel)), ⟨by decide, by decide⟩, by decide +kernel⟩
theorem w_Ward_213 : kwV "BinWard" 213 y_Street_owes b_Street_owes 1 ((some FieldType.int)) 0 := ⟨(m_T3 (i := 96) (by decide +kernel) (by decide +kernel)), (m_T3 (i := 97) (by decide +kernel) (by decide +kernel)), (m_T3 (i := 98) (by decide +kernel) (by decide +kernel)), (m_T1 (i := 11) (by decide +kernel) (by decide +kernel)), (m_T3 (i := 99) (by decide +kernel) (by decide +kernel)), ⟨by decide, by decide⟩, by decide +kernel⟩
theorem w_Law_60 : kwV "BinWardLaw" 60 y_Ward_ofBale b_Ward_ofBale 4 ((some FieldType.int)) 2 := ⟨(m_T3 (i := 100) (by decide +kernel) (by decide +kernel)), (m_T3 (i := 101) (by decide +kernel) (by decide +kernel)), (m_T3 (i := 102) (by decide +kernel) (by decide +kernel)), (m_T1 (i := 1) (by decide +kernel) (by decide +kernel)), (m_T3 (i := 103) (by decide +kernel) (by decide +kernel)), ⟨by decide, by decide⟩, by decide +kernel⟩
theorem w_Law_57 : kwV "BinWardLaw" 57 y_Ward_many b_Ward_many 2 ((some FieldType.int)) 1 := ⟨(m_T3 (i := 104) (by decide +kernel) (by decide +kernel)), (m_T3 (i := 105) (by decide +kernel) (by decide +kernel)), (m_T3 (i := 106) (by decide +kernel) (by decide +kernel)), (m_T1 (i := 1) (by decide +kernel) (by decide +kernel)), (m_T3 (i := 107) (by decide +kernel) (by decide +kernel)), ⟨by decide, by decide⟩, by decide +kernel⟩
theorem w_Ward_241 : kwV "BinWard" 241 y_Baler_countIn b_Baler_countIn 4 ((some FieldType.int)) 1 := ⟨(m_T3 (i := 108) (by decide +kernel) (by decide +kernel)), (m_T3 (i := 109) (by decide +kernel) (by decide +kernel)), (m_T3 (i := 110) (by decide +kernel) (by decide +kernel)), (m_T1 (i := 6) (by decide +kernel) (by decide +kernel)), (m_T3 (i := 111) (by decide +kernel) (by decide +kernel)), ⟨by decide, by decide⟩, by decide +kernel⟩
theorem w_Ward_272 : kwV "BinWard" 272 y_Ward_fetchedEver b_Ward_fetchedEver 3 ((some FieldType.int)) 0 := ⟨(m_T3 (i := 112) (by decide +kernel) (by decide +kernel)), (m_T3 (i := 114) (by decide +kernel) (by decide +kernel)), (m_P (i := 4) (by decide +kernel) (by decide +kernel)), (m_T1 (i := 1) (by decide +kernel) (by decide +kernel)), (m_T3 (i := 115) (by decide +kernel) (by decide +kernel)), ⟨by decide, by decide⟩, by decide +kernel⟩
theorem w_Ward_275 : kwV "BinWard" 275 y_Ward_litterIn b_Ward_litterIn 4 ((some FieldType.int)) 1 := ⟨(m_T3 (i := 116) (by decide +kernel) (by decide +kernel)), (m_T3 (i := 118) (by decide +kernel) (by decide +kernel)), (m_P (i := 5) (by decide +kernel) (by decide +kernel)), (m_T1 (i := 1) (by decide +kernel) (by decide +kernel)), (m_T3 (i := 119) (by decide +kernel) (by decide +kernel)), ⟨by decide, by decide⟩, by decide +kernel⟩
theorem w_Law_96 : kwV "BinWardLaw" 96 y_Ward_meanDirt b_Ward_meanDirt 2 ((some FieldType.double)) 0 := ⟨(m_T3 (i := 120) (by decide +kernel) (by decide +kernel)), (m_T3 (i := 121) (by decide +kernel) (by decide +kernel)), (m_T3 (i := 122) (by decide +kernel) (by decide +kernel)), (m_T1 (i := 1) (by decide +kernel) (by decide +kernel)), (m_T3 (i := 123) (by decide +kernel) (by decide +kernel)), ⟨by decide, by decide⟩, by decide +kernel⟩
theorem w_Ward_282 : kwV "BinWard" 282 y_Baler_dirtyInBales b_Baler_dirtyInBales 3 ((some FieldType.int)) 0 := ⟨(m_T3 (i := 124) (by decide +kernel) (by decide +kernel)), (m_T3 (i := 125) (by decide +kernel) (by decide +kernel)), (m_T3 (i := 126) (by decide +kernel) (by decide +kernel)), (m_T1 (i := 6) (by decide +kernel) (by decide +kernel)), (m_T3 (i := 127) (by decide +kernel) (by decide +kernel)), ⟨by decide, by decide⟩, by decide +kernel⟩
theorem w_Law_93 : kwV "BinWardLaw" 93 y_Ward_bestFetch b_Ward_bestFetch 3 ((some FieldType.int)) 1 := ⟨(m_T3 (i := 128) (by decide +kernel) (by decide +kernel)), (m_T3 (i := 129) (by decide +kernel) (by decide +kernel)), (m_T3 (i := 130) (by decide +kernel) (by decide +kernel)), (m_T1 (i := 1) (by decide +kernel) (by decide +kernel)), (m_T3 (i := 131) (by decide +kernel) (by decide +kernel)), ⟨by decide, by decide⟩, by decide +kernel⟩
theorem w_Ward_292 : kwV "BinWard" 292 y_Search_run b_Search_run 7 ((none : Option FieldType)) 3 := ⟨(m_T3 (i := 132) (by decide +kernel) (by decide +kernel)), (m_T3 (i := 133) (by decide +kernel) (by decide +kernel)), (m_T3 (i := 134) (by decide +kernel) (by decide +kernel)), (m_T1 (i := 3) (by decide +kernel) (by decide +kernel)), (m_T3 (i := 135) (by decide +kernel) (by decide +kernel)), ⟨by decide, by decide⟩, by decide +kernel⟩
theorem w_Search_21 : kwS "BinWard$Search" 21 y_Search_wayHome b_Search_wayHome 5 ((some FieldType.int)) 3 := ⟨(m_T3 (i := 136) (by decide +kernel) (by decide +kernel)), (m_T3 (i := 137) (by decide +kernel) (by decide +kernel)), (m_T1 (i := 3) (by decide +kernel) (by decide +kernel)), (m_T3 (i := 138) (by decide +kernel) (by decide +kernel)), ⟨by decide, by decide⟩, by decide +kernel⟩
theorem w_Search_48 : kwS "BinWard$Search" 48 y_Search_isIn b_Search_isIn 2 ((some FieldType.boolean)) 2 := ⟨(m_T3 (i := 139) (by decide +kernel) (by decide +kernel)), (m_T3 (i := 140) (by decide +kernel) (by decide +kernel)), (m_T1 (i := 3) (by decide +kernel) (by decide +kernel)), (m_T3 (i := 141) (by decide +kernel) (by decide +kernel)), ⟨by decide, by decide⟩, by decide +kernel⟩
theorem w_Search_70 : Cond.methodLink "BinWard$Search" 70 Lib.Math.max.name ∈ tg := (m_T3 (i := 142) (by decide +kernel) (by decide +kernel))
theorem w_Search_25 : kwS "BinWard$Search" 25 y_Integer_bitCount b_Integer_bitCount 1 ((some FieldType.int)) 1 := ⟨(m_T3 (i := 145) (by decide +kernel) (by decide +kernel)), (m_T3 (i := 146) (by decide +kernel) (by decide +kernel)), (m_T1 (i := 20) (by decide +kernel) (by decide +kernel)), (m_T3 (i := 147) (by decide +kernel) (by decide +kernel)), ⟨by decide, by decide⟩, by decide +kernel⟩
theorem w_Search_31 : kwS "BinWard$Search" 31 y_Search_kilosOf b_Search_kilosOf 6 ((some FieldType.int)) 3 := ⟨(m_T3 (i := 151) (by decide +kernel) (by decide +kernel)), (m_T3 (i := 152) (by decide +kernel) (by decide +kernel)), (m_T1 (i := 3) (by decide +kernel) (by decide +kernel)), (m_T3 (i := 153) (by decide +kernel) (by decide +kernel)), ⟨by decide, by decide⟩, by decide +kernel⟩
theorem w_Search_56 : kwV "BinWard$Search" 56 y_Street_kilosIn b_Street_kilosIn 2 ((some FieldType.int)) 1 := ⟨(m_T3 (i := 154) (by decide +kernel) (by decide +kernel)), (m_T3 (i := 155) (by decide +kernel) (by decide +kernel)), (m_T3 (i := 156) (by decide +kernel) (by decide +kernel)), (m_T1 (i := 11) (by decide +kernel) (by decide +kernel)), (m_T3 (i := 157) (by decide +kernel) (by decide +kernel)), ⟨by decide, by decide⟩, by decide +kernel⟩
theorem w_Search_61 : Cond.methodLink "BinWard$Search" 61 Lib.Math.min.name ∈ tg := (m_T3 (i := 158) (by decide +kernel) (by decide +kernel))
theorem w_Search_40 : kwS "BinWard$Search" 40 y_Search_smallestNumber b_Search_smallestNumber 7 ((some FieldType.int)) 2 := ⟨(m_T3 (i := 161) (by decide +kernel) (by decide +kernel)), (m_T3 (i := 162) (by decide +kernel) (by decide +kernel)), (m_T1 (i := 3) (by decide +kernel) (by decide +kernel)), (m_T3 (i := 163) (by decide +kernel) (by decide +kernel)), ⟨by decide, by decide⟩, by decide +kernel⟩
theorem w_Search_73 : kwS "BinWard$Search" 73 y_Search_smallestNext b_Search_smallestNext 7 ((some FieldType.int)) 3 := ⟨(m_T3 (i := 164) (by decide +kernel) (by decide +kernel)), (m_T3 (i := 165) (by decide +kernel) (by decide +kernel)), (m_T1 (i := 3) (by decide +kernel) (by decide +kernel)), (m_T3 (i := 166) (by decide +kernel) (by decide +kernel)), ⟨by decide, by decide⟩, by decide +kernel⟩
theorem w_Search_76 : Cond.methodLink "BinWard$Search" 76 Lib.Math.abs.name ∈ tg := (m_T3 (i := 167) (by decide +kernel) (by decide +kernel))
theorem w_Search_44 : kwV "BinWard$Search" 44 y_Search_compare b_Search_compare 5 ((none : Option FieldType)) 3 := ⟨(m_T3 (i := 170) (by decide +kernel) (by decide +kernel)), (m_T3 (i := 172) (by decide +kernel) (by decide +kernel)), (m_P (i := 6) (by decide +kernel) (by decide +kernel)), (m_T1 (i := 3) (by decide +kernel) (by decide +kernel)), (m_T3 (i := 173) (by decide +kernel) (by decide +kernel)), ⟨by decide, by decide⟩, by decide +kernel⟩
theorem w_Law_90 : kwV "BinWardLaw" 90 y_Ward_wouldLie b_Ward_wouldLie 5 ((some FieldType.int)) 1 := ⟨(m_T3 (i := 174) (by decide +kernel) (by decide +kernel)), (m_T3 (i := 175) (by decide +kernel) (by decide +kernel)), (m_T3 (i := 176) (by decide +kernel) (by decide +kernel)), (m_T1 (i := 1) (by decide +kernel) (by decide +kernel)), (m_T3 (i := 177) (by decide +kernel) (by decide +kernel)), ⟨by decide, by decide⟩, by decide +kernel⟩
theorem w_Ward_302 : kwV "BinWard" 302 y_Street_copyBins b_Street_copyBins 3 ((none : Option FieldType)) 1 := ⟨(m_T3 (i := 178) (by decide +kernel) (by decide +kernel)), (m_T3 (i := 179) (by decide +kernel) (by decide +kernel)), (m_T3 (i := 180) (by decide +kernel) (by decide +kernel)), (m_T1 (i := 11) (by decide +kernel) (by decide +kernel)), (m_T3 (i := 181) (by decide +kernel) (by decide +kernel)), ⟨by decide, by decide⟩, by decide +kernel⟩
theorem w_Ward_306 : kwV "BinWard" 306 y_Ward_fillBins b_Ward_fillBins 3 ((none : Option FieldType)) 1 := ⟨(m_T3 (i := 182) (by decide +kernel) (by decide +kernel)), (m_T3 (i := 184) (by decide +kernel) (by decide +kernel)), (m_P (i := 7) (by decide +kernel) (by decide +kernel)), (m_T1 (i := 1) (by decide +kernel) (by decide +kernel)), (m_T3 (i := 185) (by decide +kernel) (by decide +kernel)), ⟨by decide, by decide⟩, by decide +kernel⟩
theorem w_Ward_367 : kwV "BinWard" 367 y_Street_throwAway b_Street_throwAway 6 ((none : Option FieldType)) 0 := ⟨(m_T3 (i := 186) (by decide +kernel) (by decide +kernel)), (m_T3 (i := 187) (by decide +kernel) (by decide +kernel)), (m_T3 (i := 188) (by decide +kernel) (by decide +kernel)), (m_T1 (i := 11) (by decide +kernel) (by decide +kernel)), (m_T3 (i := 189) (by decide +kernel) (by decide +kernel)), ⟨by decide, by decide⟩, by decide +kernel⟩
theorem w_Street_32 : kwV "BinWard$Street" 32 y_Street_roomIn b_Street_roomIn 2 ((some FieldType.int)) 1 := ⟨(m_T3 (i := 190) (by decide +kernel) (by decide +kernel)), (m_T3 (i := 191) (by decide +kernel) (by decide +kernel)), (m_T3 (i := 192) (by decide +kernel) (by decide +kernel)), (m_T1 (i := 11) (by decide +kernel) (by decide +kernel)), (m_T3 (i := 193) (by decide +kernel) (by decide +kernel)), ⟨by decide, by decide⟩, by decide +kernel⟩
theorem w_Street_24 : kwV "BinWard$Street" 24 y_Street_kilosIn b_Street_kilosIn 2 ((some FieldType.int)) 1 := ⟨(m_T3 (i := 194) (by decide +kernel) (by decide +kernel)), (m_T3 (i := 155) (by decide +kernel) (by decide +kernel)), (m_T3 (i := 156) (by decide +kernel) (by decide +kernel)), (m_T1 (i := 11) (by decide +kernel) (by decide +kernel)), (m_T3 (i := 157) (by decide +kernel) (by decide +kernel)), ⟨by decide, by decide⟩, by decide +kernel⟩
theorem w_Street_35 : Cond.methodLink "BinWard$Street" 35 Lib.Math.min.name ∈ tg := (m_T3 (i := 195) (by decide +kernel) (by decide +kernel))
theorem w_Ward_310 : kwS "BinWard" 310 y_Math_floorMod b_Math_floorMod 3 ((some FieldType.int)) 2 := ⟨(m_T3 (i := 196) (by decide +kernel) (by decide +kernel)), (m_T3 (i := 197) (by decide +kernel) (by decide +kernel)), (m_T1 (i := 19) (by decide +kernel) (by decide +kernel)), (m_T3 (i := 198) (by decide +kernel) (by decide +kernel)), ⟨by decide, by decide⟩, by decide +kernel⟩
theorem w_Ward_315 : kwV "BinWard" 315 y_Trip_drive b_Trip_drive 9 ((none : Option FieldType)) 3 := ⟨(m_T3 (i := 199) (by decide +kernel) (by decide +kernel)), (m_T3 (i := 200) (by decide +kernel) (by decide +kernel)), (m_T3 (i := 201) (by decide +kernel) (by decide +kernel)), (m_T1 (i := 2) (by decide +kernel) (by decide +kernel)), (m_T3 (i := 202) (by decide +kernel) (by decide +kernel)), ⟨by decide, by decide⟩, by decide +kernel⟩
theorem w_Trip_18 : kwV "BinWard$Trip" 18 y_Trip_begin b_Trip_begin 2 ((none : Option FieldType)) 0 := ⟨(m_T3 (i := 203) (by decide +kernel) (by decide +kernel)), (m_T3 (i := 205) (by decide +kernel) (by decide +kernel)), (m_P (i := 8) (by decide +kernel) (by decide +kernel)), (m_T1 (i := 2) (by decide +kernel) (by decide +kernel)), (m_T3 (i := 206) (by decide +kernel) (by decide +kernel)), ⟨by decide, by decide⟩, by decide +kernel⟩
theorem w_Trip_36 : Cond.methodLink "BinWard$Trip" 36 Lib.Math.abs.name ∈ tg := (m_T3 (i := 207) (by decide +kernel) (by decide +kernel))
theorem w_Trip_45 : kwV "BinWard$Trip" 45 y_Trip_empty b_Trip_empty 5 ((none : Option FieldType)) 2 := ⟨(m_T3 (i := 208) (by decide +kernel) (by decide +kernel)), (m_T3 (i := 210) (by decide +kernel) (by decide +kernel)), (m_P (i := 9) (by decide +kernel) (by decide +kernel)), (m_T1 (i := 2) (by decide +kernel) (by decide +kernel)), (m_T3 (i := 211) (by decide +kernel) (by decide +kernel)), ⟨by decide, by decide⟩, by decide +kernel⟩
theorem w_Trip_64 : kwV "BinWard$Trip" 64 y_Trip_load b_Trip_load 7 ((none : Option FieldType)) 3 := ⟨(m_T3 (i := 212) (by decide +kernel) (by decide +kernel)), (m_T3 (i := 214) (by decide +kernel) (by decide +kernel)), (m_P (i := 10) (by decide +kernel) (by decide +kernel)), (m_T1 (i := 2) (by decide +kernel) (by decide +kernel)), (m_T3 (i := 215) (by decide +kernel) (by decide +kernel)), ⟨by decide, by decide⟩, by decide +kernel⟩
theorem w_Trip_72 : Cond.methodLink "BinWard$Trip" 72 Lib.Math.min.name ∈ tg := (m_T3 (i := 216) (by decide +kernel) (by decide +kernel))
theorem w_Trip_68 : kwV "BinWard$Trip" 68 y_Street_kilosIn b_Street_kilosIn 2 ((some FieldType.int)) 1 := ⟨(m_T3 (i := 217) (by decide +kernel) (by decide +kernel)), (m_T3 (i := 155) (by decide +kernel) (by decide +kernel)), (m_T3 (i := 156) (by decide +kernel) (by decide +kernel)), (m_T1 (i := 11) (by decide +kernel) (by decide +kernel)), (m_T3 (i := 157) (by decide +kernel) (by decide +kernel)), ⟨by decide, by decide⟩, by decide +kernel⟩
theorem w_Law_86 : kwV "BinWardLaw" 86 y_Ward_digest b_Ward_digest 5 ((some FieldType.long)) 0 := ⟨(m_T3 (i := 218) (by decide +kernel) (by decide +kernel)), (m_T3 (i := 219) (by decide +kernel) (by decide +kernel)), (m_T3 (i := 220) (by decide +kernel) (by decide +kernel)), (m_T1 (i := 1) (by decide +kernel) (by decide +kernel)), (m_T3 (i := 221) (by decide +kernel) (by decide +kernel)), ⟨by decide, by decide⟩, by decide +kernel⟩
theorem w_Ward_323 : kwV "BinWard" 323 y_Ward_many b_Ward_many 2 ((some FieldType.int)) 1 := ⟨(m_T3 (i := 224) (by decide +kernel) (by decide +kernel)), (m_T3 (i := 105) (by decide +kernel) (by decide +kernel)), (m_T3 (i := 106) (by decide +kernel) (by decide +kernel)), (m_T1 (i := 1) (by decide +kernel) (by decide +kernel)), (m_T3 (i := 107) (by decide +kernel) (by decide +kernel)), ⟨by decide, by decide⟩, by decide +kernel⟩
theorem w_Ward_326 : kwV "BinWard" 326 y_Ward_rate b_Ward_rate 3 ((some FieldType.int)) 1 := ⟨(m_T3 (i := 225) (by decide +kernel) (by decide +kernel)), (m_T3 (i := 226) (by decide +kernel) (by decide +kernel)), (m_T3 (i := 227) (by decide +kernel) (by decide +kernel)), (m_T1 (i := 1) (by decide +kernel) (by decide +kernel)), (m_T3 (i := 228) (by decide +kernel) (by decide +kernel)), ⟨by decide, by decide⟩, by decide +kernel⟩
theorem w_Ward_279 : kwV "BinWard" 279 y_Ward_countedAsUsed b_Ward_countedAsUsed 3 ((some FieldType.int)) 1 := ⟨(m_T3 (i := 229) (by decide +kernel) (by decide +kernel)), (m_T3 (i := 231) (by decide +kernel) (by decide +kernel)), (m_P (i := 11) (by decide +kernel) (by decide +kernel)), (m_T1 (i := 1) (by decide +kernel) (by decide +kernel)), (m_T3 (i := 232) (by decide +kernel) (by decide +kernel)), ⟨by decide, by decide⟩, by decide +kernel⟩
theorem w_Ward_413 : kwV "BinWard" 413 y_Baler_cleanSold b_Baler_cleanSold 3 ((some FieldType.int)) 0 := ⟨(m_T3 (i := 233) (by decide +kernel) (by decide +kernel)), (m_T3 (i := 234) (by decide +kernel) (by decide +kernel)), (m_T3 (i := 235) (by decide +kernel) (by decide +kernel)), (m_T1 (i := 6) (by decide +kernel) (by decide +kernel)), (m_T3 (i := 236) (by decide +kernel) (by decide +kernel)), ⟨by decide, by decide⟩, by decide +kernel⟩
theorem w_Ward_329 : kwV "BinWard" 329 y_Ward_digestOfStreet b_Ward_digestOfStreet 7 ((some FieldType.long)) 2 := ⟨(m_T3 (i := 237) (by decide +kernel) (by decide +kernel)), (m_T3 (i := 239) (by decide +kernel) (by decide +kernel)), (m_P (i := 12) (by decide +kernel) (by decide +kernel)), (m_T1 (i := 1) (by decide +kernel) (by decide +kernel)), (m_T4 (i := 0) (by decide +kernel) (by decide +kernel)), ⟨by decide, by decide⟩, by decide +kernel⟩
theorem w_Ward_342 : kwV "BinWard" 342 y_Ward_ofStreet b_Ward_ofStreet 4 ((some FieldType.int)) 2 := ⟨(m_T4 (i := 1) (by decide +kernel) (by decide +kernel)), (m_T3 (i := 93) (by decide +kernel) (by decide +kernel)), (m_T3 (i := 94) (by decide +kernel) (by decide +kernel)), (m_T1 (i := 1) (by decide +kernel) (by decide +kernel)), (m_T3 (i := 95) (by decide +kernel) (by decide +kernel)), ⟨by decide, by decide⟩, by decide +kernel⟩
theorem w_Ward_345 : kwV "BinWard" 345 y_Ward_fullIn b_Ward_fullIn 7 ((some FieldType.int)) 2 := ⟨(m_T4 (i := 2) (by decide +kernel) (by decide +kernel)), (m_T4 (i := 3) (by decide +kernel) (by decide +kernel)), (m_T4 (i := 4) (by decide +kernel) (by decide +kernel)), (m_T1 (i := 1) (by decide +kernel) (by decide +kernel)), (m_T4 (i := 5) (by decide +kernel) (by decide +kernel)), ⟨by decide, by decide⟩, by decide +kernel⟩
theorem w_Ward_285 : kwV "BinWard" 285 y_Street_roomIn b_Street_roomIn 2 ((some FieldType.int)) 1 := ⟨(m_T4 (i := 6) (by decide +kernel) (by decide +kernel)), (m_T3 (i := 191) (by decide +kernel) (by decide +kernel)), (m_T3 (i := 192) (by decide +kernel) (by decide +kernel)), (m_T1 (i := 11) (by decide +kernel) (by decide +kernel)), (m_T3 (i := 193) (by decide +kernel) (by decide +kernel)), ⟨by decide, by decide⟩, by decide +kernel⟩
theorem w_Ward_288 : kwS "BinWard" 288 y_Ward_roundedUp b_Ward_roundedUp 2 ((some FieldType.int)) 2 := ⟨(m_T4 (i := 7) (by decide +kernel) (by decide +kernel)), (m_T4 (i := 8) (by decide +kernel) (by decide +kernel)), (m_T1 (i := 1) (by decide +kernel) (by decide +kernel)), (m_T4 (i := 9) (by decide +kernel) (by decide +kernel)), ⟨by decide, by decide⟩, by decide +kernel⟩
theorem w_Ward_333 : kwV "BinWard" 333 y_Ward_digestOfLorry b_Ward_digestOfLorry 7 ((some FieldType.long)) 2 := ⟨(m_T4 (i := 10) (by decide +kernel) (by decide +kernel)), (m_T4 (i := 12) (by decide +kernel) (by decide +kernel)), (m_P (i := 13) (by decide +kernel) (by decide +kernel)), (m_T1 (i := 1) (by decide +kernel) (by decide +kernel)), (m_T4 (i := 13) (by decide +kernel) (by decide +kernel)), ⟨by decide, by decide⟩, by decide +kernel⟩
theorem w_Ward_348 : kwV "BinWard" 348 y_Ward_ofLorry b_Ward_ofLorry 4 ((some FieldType.int)) 2 := ⟨(m_T4 (i := 14) (by decide +kernel) (by decide +kernel)), (m_T4 (i := 15) (by decide +kernel) (by decide +kernel)), (m_T4 (i := 16) (by decide +kernel) (by decide +kernel)), (m_T1 (i := 1) (by decide +kernel) (by decide +kernel)), (m_T4 (i := 17) (by decide +kernel) (by decide +kernel)), ⟨by decide, by decide⟩, by decide +kernel⟩
theorem w_Ward_336 : kwV "BinWard" 336 y_Ward_ofBale b_Ward_ofBale 4 ((some FieldType.int)) 2 := ⟨(m_T4 (i := 18) (by decide +kernel) (by decide +kernel)), (m_T3 (i := 101) (by decide +kernel) (by decide +kernel)), (m_T3 (i := 102) (by decide +kernel) (by decide +kernel)), (m_T1 (i := 1) (by decide +kernel) (by decide +kernel)), (m_T3 (i := 103) (by decide +kernel) (by decide +kernel)), ⟨by decide, by decide⟩, by decide +kernel⟩
theorem w_Ward_339 : kwV "BinWard" 339 y_Ward_wouldLie b_Ward_wouldLie 5 ((some FieldType.int)) 1 := ⟨(m_T4 (i := 19) (by decide +kernel) (by decide +kernel)), (m_T3 (i := 175) (by decide +kernel) (by decide +kernel)), (m_T3 (i := 176) (by decide +kernel) (by decide +kernel)), (m_T1 (i := 1) (by decide +kernel) (by decide +kernel)), (m_T3 (i := 177) (by decide +kernel) (by decide +kernel)), ⟨by decide, by decide⟩, by decide +kernel⟩
theorem w_Law_18 : kwS "BinWardLaw" 18 y_Law_below b_Law_below 2 ((some FieldType.int)) 2 := ⟨(m_T4 (i := 20) (by decide +kernel) (by decide +kernel)), (m_T4 (i := 21) (by decide +kernel) (by decide +kernel)), (m_T1 (i := 0) (by decide +kernel) (by decide +kernel)), (m_T4 (i := 22) (by decide +kernel) (by decide +kernel)), ⟨by decide, by decide⟩, by decide +kernel⟩
theorem w_Law_12 : kwS "BinWardLaw" 12 y_Law_cell b_Law_cell 2 ((some FieldType.int)) 2 := ⟨(m_T4 (i := 24) (by decide +kernel) (by decide +kernel)), (m_T4 (i := 25) (by decide +kernel) (by decide +kernel)), (m_T1 (i := 0) (by decide +kernel) (by decide +kernel)), (m_T4 (i := 26) (by decide +kernel) (by decide +kernel)), ⟨by decide, by decide⟩, by decide +kernel⟩
theorem w_Law_70 : kwS "BinWardLaw" 70 y_Law_comes b_Law_comes 6 ((some FieldType.int)) 3 := ⟨(m_T4 (i := 28) (by decide +kernel) (by decide +kernel)), (m_T4 (i := 29) (by decide +kernel) (by decide +kernel)), (m_T1 (i := 0) (by decide +kernel) (by decide +kernel)), (m_T4 (i := 30) (by decide +kernel) (by decide +kernel)), ⟨by decide, by decide⟩, by decide +kernel⟩
theorem w_Law_78 : kwS "BinWardLaw" 78 y_Law_isPassed b_Law_isPassed 8 ((some FieldType.boolean)) 3 := ⟨(m_T4 (i := 31) (by decide +kernel) (by decide +kernel)), (m_T4 (i := 32) (by decide +kernel) (by decide +kernel)), (m_T1 (i := 0) (by decide +kernel) (by decide +kernel)), (m_T4 (i := 33) (by decide +kernel) (by decide +kernel)), ⟨by decide, by decide⟩, by decide +kernel⟩
theorem w_Law_102 : kwV "BinWardLaw" 102 y_Ward_fullIn b_Ward_fullIn 7 ((some FieldType.int)) 2 := ⟨(m_T4 (i := 34) (by decide +kernel) (by decide +kernel)), (m_T4 (i := 3) (by decide +kernel) (by decide +kernel)), (m_T4 (i := 4) (by decide +kernel) (by decide +kernel)), (m_T1 (i := 1) (by decide +kernel) (by decide +kernel)), (m_T4 (i := 5) (by decide +kernel) (by decide +kernel)), ⟨by decide, by decide⟩, by decide +kernel⟩
theorem w_Law_105 : kwV "BinWardLaw" 105 y_Ward_pass b_Ward_pass 4 ((some FieldType.int)) 1 := ⟨(m_T4 (i := 35) (by decide +kernel) (by decide +kernel)), (m_T4 (i := 36) (by decide +kernel) (by decide +kernel)), (m_T4 (i := 37) (by decide +kernel) (by decide +kernel)), (m_T1 (i := 1) (by decide +kernel) (by decide +kernel)), (m_T4 (i := 38) (by decide +kernel) (by decide +kernel)), ⟨by decide, by decide⟩, by decide +kernel⟩
theorem w_Ward_151 : kwV "BinWard" 151 y_Ward_liveOneDay b_Ward_liveOneDay 2 ((some FieldType.int)) 0 := ⟨(m_T4 (i := 39) (by decide +kernel) (by decide +kernel)), (m_T4 (i := 41) (by decide +kernel) (by decide +kernel)), (m_P (i := 14) (by decide +kernel) (by decide +kernel)), (m_T1 (i := 1) (by decide +kernel) (by decide +kernel)), (m_T4 (i := 42) (by decide +kernel) (by decide +kernel)), ⟨by decide, by decide⟩, by decide +kernel⟩
theorem w_Ward_351 : kwV "BinWard" 351 y_Diary_reach b_Diary_reach 2 ((none : Option FieldType)) 1 := ⟨(m_T4 (i := 43) (by decide +kernel) (by decide +kernel)), (m_T4 (i := 44) (by decide +kernel) (by decide +kernel)), (m_T4 (i := 45) (by decide +kernel) (by decide +kernel)), (m_T1 (i := 4) (by decide +kernel) (by decide +kernel)), (m_T4 (i := 46) (by decide +kernel) (by decide +kernel)), ⟨by decide, by decide⟩, by decide +kernel⟩
theorem w_Diary_15 : kwS "BinWard$Diary" 15 y_Arrays_copyOf b_Arrays_copyOf 3 ((some (FieldType.array FieldType.int))) 2 := ⟨(m_T4 (i := 47) (by decide +kernel) (by decide +kernel)), (m_T4 (i := 48) (by decide +kernel) (by decide +kernel)), (m_T1 (i := 21) (by decide +kernel) (by decide +kernel)), (m_T4 (i := 49) (by decide +kernel) (by decide +kernel)), ⟨by decide, by decide⟩, by decide +kernel⟩
theorem w_Arrays_304 : Cond.methodLink "java/util/Arrays" 304 Lib.Math.min.name ∈ tg := (m_T4 (i := 57) (by decide +kernel) (by decide +kernel))
theorem w_Ward_355 : kwV "BinWard" 355 y_Ward_driveRounds b_Ward_driveRounds 5 ((some FieldType.int)) 0 := ⟨(m_T4 (i := 61) (by decide +kernel) (by decide +kernel)), (m_T4 (i := 63) (by decide +kernel) (by decide +kernel)), (m_P (i := 15) (by decide +kernel) (by decide +kernel)), (m_T1 (i := 1) (by decide +kernel) (by decide +kernel)), (m_T4 (i := 64) (by decide +kernel) (by decide +kernel)), ⟨by decide, by decide⟩, by decide +kernel⟩
theorem w_Ward_373 : kwV "BinWard" 373 y_Lorry_noteTrip b_Lorry_noteTrip 2 ((none : Option FieldType)) 1 := ⟨(m_T4 (i := 65) (by decide +kernel) (by decide +kernel)), (m_T4 (i := 66) (by decide +kernel) (by decide +kernel)), (m_T4 (i := 67) (by decide +kernel) (by decide +kernel)), (m_T1 (i := 12) (by decide +kernel) (by decide +kernel)), (m_T4 (i := 68) (by decide +kernel) (by decide +kernel)), ⟨by decide, by decide⟩, by decide +kernel⟩
theorem w_Ward_376 : kwV "BinWard" 376 y_Ward_noteMissed b_Ward_noteMissed 5 ((none : Option FieldType)) 2 := ⟨(m_T4 (i := 69) (by decide +kernel) (by decide +kernel)), (m_T4 (i := 71) (by decide +kernel) (by decide +kernel)), (m_P (i := 16) (by decide +kernel) (by decide +kernel)), (m_T1 (i := 1) (by decide +kernel) (by decide +kernel)), (m_T4 (i := 72) (by decide +kernel) (by decide +kernel)), ⟨by decide, by decide⟩, by decide +kernel⟩
theorem w_Ward_202 : kwS "BinWard" 202 y_Diary_missed b_Diary_missed 1 ((some FieldType.int)) 1 := ⟨(m_T4 (i := 73) (by decide +kernel) (by decide +kernel)), (m_T4 (i := 74) (by decide +kernel) (by decide +kernel)), (m_T1 (i := 4) (by decide +kernel) (by decide +kernel)), (m_T4 (i := 75) (by decide +kernel) (by decide +kernel)), ⟨by decide, by decide⟩, by decide +kernel⟩
theorem w_Ward_194 : kwV "BinWard" 194 y_Diary_has b_Diary_has 3 ((some FieldType.boolean)) 2 := ⟨(m_T4 (i := 76) (by decide +kernel) (by decide +kernel)), (m_T4 (i := 77) (by decide +kernel) (by decide +kernel)), (m_T4 (i := 78) (by decide +kernel) (by decide +kernel)), (m_T1 (i := 4) (by decide +kernel) (by decide +kernel)), (m_T4 (i := 79) (by decide +kernel) (by decide +kernel)), ⟨by decide, by decide⟩, by decide +kernel⟩
theorem w_Ward_199 : kwV "BinWard" 199 y_Diary_note b_Diary_note 3 ((none : Option FieldType)) 2 := ⟨(m_T4 (i := 80) (by decide +kernel) (by decide +kernel)), (m_T4 (i := 81) (by decide +kernel) (by decide +kernel)), (m_T4 (i := 82) (by decide +kernel) (by decide +kernel)), (m_T1 (i := 4) (by decide +kernel) (by decide +kernel)), (m_T4 (i := 83) (by decide +kernel) (by decide +kernel)), ⟨by decide, by decide⟩, by decide +kernel⟩
theorem w_Ward_358 : kwV "BinWard" 358 y_Ward_sortLoads b_Ward_sortLoads 4 ((none : Option FieldType)) 0 := ⟨(m_T4 (i := 84) (by decide +kernel) (by decide +kernel)), (m_T4 (i := 86) (by decide +kernel) (by decide +kernel)), (m_P (i := 17) (by decide +kernel) (by decide +kernel)), (m_T1 (i := 1) (by decide +kernel) (by decide +kernel)), (m_T4 (i := 87) (by decide +kernel) (by decide +kernel)), ⟨by decide, by decide⟩, by decide +kernel⟩
theorem w_Ward_388 : kwV "BinWard" 388 y_Furnace_startDay b_Furnace_startDay 1 ((none : Option FieldType)) 0 := ⟨(m_T4 (i := 88) (by decide +kernel) (by decide +kernel)), (m_T4 (i := 89) (by decide +kernel) (by decide +kernel)), (m_T4 (i := 90) (by decide +kernel) (by decide +kernel)), (m_T1 (i := 8) (by decide +kernel) (by decide +kernel)), (m_T4 (i := 91) (by decide +kernel) (by decide +kernel)), ⟨by decide, by decide⟩, by decide +kernel⟩
theorem w_Ward_391 : kwV "BinWard" 391 y_Line_startDay b_Line_startDay 1 ((none : Option FieldType)) 0 := ⟨(m_T4 (i := 92) (by decide +kernel) (by decide +kernel)), (m_T4 (i := 93) (by decide +kernel) (by decide +kernel)), (m_T4 (i := 94) (by decide +kernel) (by decide +kernel)), (m_T1 (i := 5) (by decide +kernel) (by decide +kernel)), (m_T4 (i := 95) (by decide +kernel) (by decide +kernel)), ⟨by decide, by decide⟩, by decide +kernel⟩
theorem w_Ward_392 : kwV "BinWard" 392 y_Ward_bringIn b_Ward_bringIn 7 ((none : Option FieldType)) 3 := ⟨(m_T4 (i := 96) (by decide +kernel) (by decide +kernel)), (m_T4 (i := 98) (by decide +kernel) (by decide +kernel)), (m_P (i := 18) (by decide +kernel) (by decide +kernel)), (m_T1 (i := 1) (by decide +kernel) (by decide +kernel)), (m_T4 (i := 99) (by decide +kernel) (by decide +kernel)), ⟨by decide, by decide⟩, by decide +kernel⟩
theorem w_Ward_398 : kwV "BinWard" 398 y_Furnace_burn b_Furnace_burn 6 ((none : Option FieldType)) 2 := ⟨(m_T4 (i := 100) (by decide +kernel) (by decide +kernel)), (m_T4 (i := 101) (by decide +kernel) (by decide +kernel)), (m_T4 (i := 102) (by decide +kernel) (by decide +kernel)), (m_T1 (i := 8) (by decide +kernel) (by decide +kernel)), (m_T4 (i := 103) (by decide +kernel) (by decide +kernel)), ⟨by decide, by decide⟩, by decide +kernel⟩
theorem w_Furnace_16 : Cond.methodLink "BinWard$Furnace" 16 Lib.Math.min.name ∈ tg := (m_T4 (i := 104) (by decide +kernel) (by decide +kernel))
theorem w_Furnace_31 : kwV "BinWard$Furnace" 31 y_Pit_takeIn b_Pit_takeIn 3 ((none : Option FieldType)) 2 := ⟨(m_T4 (i := 105) (by decide +kernel) (by decide +kernel)), (m_T3 (i := 89) (by decide +kernel) (by decide +kernel)), (m_T3 (i := 90) (by decide +kernel) (by decide +kernel)), (m_T1 (i := 10) (by decide +kernel) (by decide +kernel)), (m_T3 (i := 91) (by decide +kernel) (by decide +kernel)), ⟨by decide, by decide⟩, by decide +kernel⟩
theorem w_Ward_402 : kwV "BinWard" 402 y_Line_sort b_Line_sort 7 ((some FieldType.int)) 3 := ⟨(m_T4 (i := 106) (by decide +kernel) (by decide +kernel)), (m_T4 (i := 107) (by decide +kernel) (by decide +kernel)), (m_T4 (i := 108) (by decide +kernel) (by decide +kernel)), (m_T1 (i := 5) (by decide +kernel) (by decide +kernel)), (m_T4 (i := 109) (by decide +kernel) (by decide +kernel)), ⟨by decide, by decide⟩, by decide +kernel⟩
theorem w_Line_19 : Cond.methodLink "BinWard$Line" 19 Lib.Math.min.name ∈ tg := (m_T4 (i := 110) (by decide +kernel) (by decide +kernel))
theorem w_Ward_406 : kwV "BinWard" 406 y_Baler_press b_Baler_press 4 ((none : Option FieldType)) 1 := ⟨(m_T4 (i := 111) (by decide +kernel) (by decide +kernel)), (m_T4 (i := 112) (by decide +kernel) (by decide +kernel)), (m_T4 (i := 113) (by decide +kernel) (by decide +kernel)), (m_T1 (i := 6) (by decide +kernel) (by decide +kernel)), (m_T4 (i := 114) (by decide +kernel) (by decide +kernel)), ⟨by decide, by decide⟩, by decide +kernel⟩
theorem w_Baler_28 : kwV "BinWard$Baler" 28 y_Baler_kilos b_Baler_kilos 1 ((some FieldType.int)) 0 := ⟨(m_T4 (i := 115) (by decide +kernel) (by decide +kernel)), (m_T3 (i := 81) (by decide +kernel) (by decide +kernel)), (m_T3 (i := 82) (by decide +kernel) (by decide +kernel)), (m_T1 (i := 6) (by decide +kernel) (by decide +kernel)), (m_T3 (i := 83) (by decide +kernel) (by decide +kernel)), ⟨by decide, by decide⟩, by decide +kernel⟩
theorem w_Ward_409 : kwV "BinWard" 409 y_Heap_takeIn b_Heap_takeIn 3 ((none : Option FieldType)) 2 := ⟨(m_T4 (i := 116) (by decide +kernel) (by decide +kernel)), (m_T4 (i := 117) (by decide +kernel) (by decide +kernel)), (m_T4 (i := 118) (by decide +kernel) (by decide +kernel)), (m_T1 (i := 9) (by decide +kernel) (by decide +kernel)), (m_T4 (i := 119) (by decide +kernel) (by decide +kernel)), ⟨by decide, by decide⟩, by decide +kernel⟩
theorem w_Ward_361 : kwV "BinWard" 361 y_Heap_ripen b_Heap_ripen 3 ((none : Option FieldType)) 0 := ⟨(m_T4 (i := 120) (by decide +kernel) (by decide +kernel)), (m_T4 (i := 121) (by decide +kernel) (by decide +kernel)), (m_T4 (i := 122) (by decide +kernel) (by decide +kernel)), (m_T1 (i := 9) (by decide +kernel) (by decide +kernel)), (m_T4 (i := 123) (by decide +kernel) (by decide +kernel)), ⟨by decide, by decide⟩, by decide +kernel⟩
theorem w_Heap_19 : kwN "BinWard$Heap" 19 y_Ward_roundedUp "BinWard" b_Ward_roundedUp 2 ((some FieldType.int)) 2 := ⟨fun _ h => h, (m_T4 (i := 8) (by decide +kernel) (by decide +kernel)), (m_T1 (i := 1) (by decide +kernel) (by decide +kernel)), (m_T4 (i := 9) (by decide +kernel) (by decide +kernel)), ⟨by decide, by decide⟩, by decide +kernel⟩
theorem w_Ward_364 : kwV "BinWard" 364 y_Pit_giveGas b_Pit_giveGas 2 ((none : Option FieldType)) 0 := ⟨(m_T4 (i := 125) (by decide +kernel) (by decide +kernel)), (m_T4 (i := 126) (by decide +kernel) (by decide +kernel)), (m_T4 (i := 127) (by decide +kernel) (by decide +kernel)), (m_T1 (i := 10) (by decide +kernel) (by decide +kernel)), (m_T4 (i := 128) (by decide +kernel) (by decide +kernel)), ⟨by decide, by decide⟩, by decide +kernel⟩
theorem w_Law_108 : Cond.methodLink "BinWardLaw" 108 Lib.Math.max.name ∈ tg := (m_T4 (i := 129) (by decide +kernel) (by decide +kernel))
theorem w_Law_74 : kwS "BinWardLaw" 74 y_Law_isBest b_Law_isBest 8 ((some FieldType.boolean)) 2 := ⟨(m_T4 (i := 130) (by decide +kernel) (by decide +kernel)), (m_T4 (i := 131) (by decide +kernel) (by decide +kernel)), (m_T1 (i := 0) (by decide +kernel) (by decide +kernel)), (m_T4 (i := 132) (by decide +kernel) (by decide +kernel)), ⟨by decide, by decide⟩, by decide +kernel⟩
theorem w_Law_113 : kwV "BinWardLaw" 113 y_Ward_bestRound b_Ward_bestRound 3 ((some FieldType.int)) 1 := ⟨(m_T4 (i := 133) (by decide +kernel) (by decide +kernel)), (m_T4 (i := 134) (by decide +kernel) (by decide +kernel)), (m_T4 (i := 135) (by decide +kernel) (by decide +kernel)), (m_T1 (i := 1) (by decide +kernel) (by decide +kernel)), (m_T4 (i := 136) (by decide +kernel) (by decide +kernel)), ⟨by decide, by decide⟩, by decide +kernel⟩
theorem w_Law_116 : kwV "BinWardLaw" 116 y_Ward_ofLorry b_Ward_ofLorry 4 ((some FieldType.int)) 2 := ⟨(m_T4 (i := 137) (by decide +kernel) (by decide +kernel)), (m_T4 (i := 15) (by decide +kernel) (by decide +kernel)), (m_T4 (i := 16) (by decide +kernel) (by decide +kernel)), (m_T1 (i := 1) (by decide +kernel) (by decide +kernel)), (m_T4 (i := 17) (by decide +kernel) (by decide +kernel)), ⟨by decide, by decide⟩, by decide +kernel⟩
theorem w_Law_82 : kwS "BinWardLaw" 82 y_Law_isSound b_Law_isSound 12 ((some FieldType.boolean)) 5 := ⟨(m_T4 (i := 139) (by decide +kernel) (by decide +kernel)), (m_T4 (i := 140) (by decide +kernel) (by decide +kernel)), (m_T1 (i := 0) (by decide +kernel) (by decide +kernel)), (m_T4 (i := 141) (by decide +kernel) (by decide +kernel)), ⟨by decide, by decide⟩, by decide +kernel⟩
theorem w_Law_120 : kwV "BinWardLaw" 120 y_Ward_rate b_Ward_rate 3 ((some FieldType.int)) 1 := ⟨(m_T4 (i := 142) (by decide +kernel) (by decide +kernel)), (m_T3 (i := 226) (by decide +kernel) (by decide +kernel)), (m_T3 (i := 227) (by decide +kernel) (by decide +kernel)), (m_T1 (i := 1) (by decide +kernel) (by decide +kernel)), (m_T3 (i := 228) (by decide +kernel) (by decide +kernel)), ⟨by decide, by decide⟩, by decide +kernel⟩
end
section
/-! contracts whose end is one: the value and the state -/
abbrev dX (v0 : Option Value) (S1 : St) : Option Value → St → Prop := fun v S' => v = v0 ∧ S' = S1
section CD
variable {Γ : Gm} {R : Room} {cc : ByteArray} {nL : Nat} {own : String} {ret : Option FieldType} {post : Option Value → St → Prop} {mc ms : Nat} {G : Nat × Nat → Nat → List (Nat × Value) → List Value → St → Prop} {cs : Nat × Nat} {pc n : Nat} {ls : List (Nat × Value)} {st stk : List Value} {S S1 : St}
theorem cVx (hG : IsG Γ R cc nL own ret post mc ms G) {idx na nY k i kk : Nat} {y : MethodName} {bts : ByteArray} {rY : Option FieldType} {As : List Value} {v0 : Value} (hw : kwV own idx y bts nY rY na) (hd : Dc cc pc (.invokevirtual idx) 3 n) (hc : CT Γ y bts nY rY (rmx kk 0 0) (rf Γ k i :: As) S (dX (some v0) S1))
(hk : k < 25) (hi : i < cnt k) (hcl : rcv k y.cls) (hs : stk = As.reverse ++ rf Γ k i :: st) (hna : As.length = na) (hR : kk + 1 ≤ R.frames ∧ 8 + (nY + 11) + 30 * kk ≤ R.locals) (hf : cs.1 ≤ R.cells ∧ cs.2 ≤ R.slots) (hst : (st.map fun v => v.category).sum ≤ 8)
(K : G cs n ls (v0 :: st) S1) : G cs pc ls stk S :=
cV hG hw hd hc hk hi hcl hs hna hR hf hst (fun v S' hp => by obtain ⟨rfl, rfl⟩ := hp; exact K)
theorem cVv (hG : IsG Γ R cc nL own ret post mc ms G) {idx na nY k i kk : Nat} {y : MethodName} {bts : ByteArray} {rY : Option FieldType} {As : List Value} (hw : kwV own idx y bts nY rY na) (hd : Dc cc pc (.invokevirtual idx) 3 n) (hc : CT Γ y bts nY rY (rmx kk 0 0) (rf Γ k i :: As) S (dX none S1))
(hk : k < 25) (hi : i < cnt k) (hcl : rcv k y.cls) (hs : stk = As.reverse ++ rf Γ k i :: st) (hna : As.length = na) (hR : kk + 1 ≤ R.frames ∧ 8 + (nY + 11) + 30 * kk ≤ R.locals) (hf : cs.1 ≤ R.cells ∧ cs.2 ≤ R.slots) (hst : (st.map fun v => v.category).sum ≤ 8)
(K : G cs n ls st S1) : G cs pc ls stk S :=
cV hG hw hd hc hk hi hcl hs hna hR hf hst (fun v S' hp => by obtain ⟨rfl, rfl⟩ := hp; exact K)
theorem cSx (hG : IsG Γ R cc nL own ret post mc ms G) {idx na nY kk : Nat} {y : MethodName} {bts : ByteArray} {rY : Option FieldType} {As : List Value} {v0 : Value} (hw : kwS own idx y bts nY rY na) (hd : Dc cc pc (.invokestatic idx) 3 n) (hc : CT Γ y bts nY rY (rmx kk 0 0) As S (dX (some v0) S1))
(hs : stk = As.reverse ++ st) (hna : As.length = na) (hR : kk + 1 ≤ R.frames ∧ 8 + (nY + 11) + 30 * kk ≤ R.locals) (hf : cs.1 ≤ R.cells ∧ cs.2 ≤ R.slots) (hst : (st.map fun v => v.category).sum ≤ 8)
(K : G cs n ls (v0 :: st) S1) : G cs pc ls stk S :=
cS hG hw hd hc hs hna hR hf hst (fun v S' hp => by obtain ⟨rfl, rfl⟩ := hp; exact K)
theorem cSv (hG : IsG Γ R cc nL own ret post mc ms G) {idx na nY kk : Nat} {y : MethodName} {bts : ByteArray} {rY : Option FieldType} {As : List Value} (hw : kwS own idx y bts nY rY na) (hd : Dc cc pc (.invokestatic idx) 3 n) (hc : CT Γ y bts nY rY (rmx kk 0 0) As S (dX none S1))
(hs : stk = As.reverse ++ st) (hna : As.length = na) (hR : kk + 1 ≤ R.frames ∧ 8 + (nY + 11) + 30 * kk ≤ R.locals) (hf : cs.1 ≤ R.cells ∧ cs.2 ≤ R.slots) (hst : (st.map fun v => v.category).sum ≤ 8)
(K : G cs n ls st S1) : G cs pc ls stk S :=
cS hG hw hd hc hs hna hR hf hst (fun v S' hp => by obtain ⟨rfl, rfl⟩ := hp; exact K)
theorem cNx (hG : IsG Γ R cc nL own ret post mc ms G) {idx na nY kk : Nat} {host : String} {y : MethodName} {bts : ByteArray} {rY : Option FieldType} {As : List Value} {v0 : Value} (hw : kwN own idx y host bts nY rY na) (hd : Dc cc pc (.invokestatic idx) 3 n) (hc : CT Γ y bts nY rY (rmx kk 0 0) As S (dX (some v0) S1))
(hs : stk = As.reverse ++ st) (hna : As.length = na) (hR : kk + 1 ≤ R.frames ∧ 8 + (nY + 11) + 30 * kk ≤ R.locals) (hf : cs.1 ≤ R.cells ∧ cs.2 ≤ R.slots) (hst : (st.map fun v => v.category).sum ≤ 8)
(K : G cs n ls (v0 :: st) S1) : G cs pc ls stk S :=
cN hG hw hd hc hs hna hR hf hst (fun v S' hp => by obtain ⟨rfl, rfl⟩ := hp; exact K)
theorem r_sb (hG : IsG Γ R cc nL own ret post mc ms G) {l : List (Nat × Value)} (K : G cs pc l st S) (h : subL ls l) : G cs pc ls st S := r_sub hG h K
end CD
theorem ct_kilosIn {Γ : Gm} {S : St} {t j : Nat} (ht : t < 12) (hj : j < 3) : CT Γ y_Street_kilosIn b_Street_kilosIn 2 ((some FieldType.int)) (rmx 1 0 0) [rf Γ 15 t, nt j] S (dX (some (nt (S 16 t j + S 17 t j))) S) := by
  refine CT.of (by first | exact plainFor_of_name (by rfl) | decide +kernel) (Nat.le_of_ble_eq_true rfl) ?_
  intro G hG
  show G (0, 0) 0 [(0, rf Γ 15 t), (1, nt j)] [] _
  refine r_aload_n hG (hl0 := rfl) (hd := d_Street_kilosIn_0) (K := ?_)
  refine g_Street_15 hG (hi := by omega) (hd := d_Street_kilosIn_1) (K := ?_)
  refine r_iload_n hG (hl0 := rfl) (hd := d_Street_kilosIn_4) (K := ?_)
  first | refine a_16 hG (hd := d_Street_kilosIn_5) (hz := rfl) (hj := by omega) (hi := by omega) (K := ?_) | refine a_17 hG (hd := d_Street_kilosIn_5) (hz := rfl) (hj := by omega) (hi := by omega) (K := ?_) | refine a_18 hG (hd := d_Street_kilosIn_5) (hz := rfl) (hj := by omega) (hi := by omega) (K := ?_) | refine a_19 hG (hd := d_Street_kilosIn_5) (hz := rfl) (hj := by omega) (hi := by omega) (K := ?_) | refine a_4 hG (hd := d_Street_kilosIn_5) (hz := rfl) (hj := by omega) (hi := by omega) (K := ?_) | refine a_5 hG (hd := d_Street_kilosIn_5) (hz := rfl) (hj := by omega) (hi := by omega) (K := ?_) | refine a_21 hG (hd := d_Street_kilosIn_5) (hz := rfl) (hj := by omega) (hi := by omega) (K := ?_) | refine a_23 hG (hd := d_Street_kilosIn_5) (hz := rfl) (hj := by omega) (hi := by omega) (K := ?_) | refine a_24 hG (hd := d_Street_kilosIn_5) (hz := rfl) (hj := by omega) (hi := by omega) (K := ?_)
  refine r_aload_n hG (hl0 := rfl) (hd := d_Street_kilosIn_6) (K := ?_)
  refine g_Street_18 hG (hi := by omega) (hd := d_Street_kilosIn_7) (K := ?_)
  refine r_iload_n hG (hl0 := rfl) (hd := d_Street_kilosIn_10) (K := ?_)
  first | refine a_16 hG (hd := d_Street_kilosIn_11) (hz := rfl) (hj := by omega) (hi := by omega) (K := ?_) | refine a_17 hG (hd := d_Street_kilosIn_11) (hz := rfl) (hj := by omega) (hi := by omega) (K := ?_) | refine a_18 hG (hd := d_Street_kilosIn_11) (hz := rfl) (hj := by omega) (hi := by omega) (K := ?_) | refine a_19 hG (hd := d_Street_kilosIn_11) (hz := rfl) (hj := by omega) (hi := by omega) (K := ?_) | refine a_4 hG (hd := d_Street_kilosIn_11) (hz := rfl) (hj := by omega) (hi := by omega) (K := ?_) | refine a_5 hG (hd := d_Street_kilosIn_11) (hz := rfl) (hj := by omega) (hi := by omega) (K := ?_) | refine a_21 hG (hd := d_Street_kilosIn_11) (hz := rfl) (hj := by omega) (hi := by omega) (K := ?_) | refine a_23 hG (hd := d_Street_kilosIn_11) (hz := rfl) (hj := by omega) (hi := by omega) (K := ?_) | refine a_24 hG (hd := d_Street_kilosIn_11) (hz := rfl) (hj := by omega) (hi := by omega) (K := ?_)
  first | refine r_iadd hG (hd := d_Street_kilosIn_12) (K := ?_) | refine r_iaddr hG (hd := d_Street_kilosIn_12) (K := ?_)
  refine r_iret hG d_Street_kilosIn_13 ⟨(Nat.le_of_ble_eq_true rfl), (Nat.le_of_ble_eq_true rfl)⟩ ?_
  exact ⟨rfl, rfl⟩
theorem ct_roomIn {Γ : Gm} {S : St} {t j : Nat} (ht : t < 12) (hj : j < 3) : CT Γ y_Street_roomIn b_Street_roomIn 2 ((some FieldType.int)) (rmx 2 0 0) [rf Γ 15 t, nt j] S (dX (some (nt (60 - (S 16 t j + S 17 t j)))) S) := by
  refine CT.of (by first | exact plainFor_of_name (by rfl) | decide +kernel) (Nat.le_of_ble_eq_true rfl) ?_
  intro G hG
  show G (0, 0) 0 [(0, rf Γ 15 t), (1, nt j)] [] _
  refine r_bipush hG (hd := d_Street_roomIn_0) (K := ?_)
  refine r_aload_n hG (hl0 := rfl) (hd := d_Street_roomIn_2) (K := ?_)
  refine r_iload_n hG (hl0 := rfl) (hd := d_Street_roomIn_3) (K := ?_)
  refine cVx hG w_Street_24 d_Street_roomIn_4 (ct_kilosIn ht hj) (by decide) (by show _ < 12; omega) rc_15 rfl rfl ⟨(Nat.le_of_ble_eq_true rfl), (Nat.le_of_ble_eq_true rfl)⟩ ⟨(Nat.le_of_ble_eq_true rfl), (Nat.le_of_ble_eq_true rfl)⟩ (Nat.le_of_ble_eq_true rfl) ?_
  first | refine r_isub hG (hd := d_Street_roomIn_7) (K := ?_) | refine r_isubr hG (hd := d_Street_roomIn_7) (K := ?_)
  refine r_iret hG d_Street_roomIn_8 ⟨(Nat.le_of_ble_eq_true rfl), (Nat.le_of_ble_eq_true rfl)⟩ ?_
  exact ⟨rfl, rfl⟩
end
section
/-! LEAVES: Pit, Furnace, Heap, Line, Baler -/
def pitIn (S : St) (a b : Int) : St := sU (sU (sU S 70 0 0 (S 70 0 0 + a)) 71 0 0 (S 71 0 0 + b)) 73 0 0 (S 73 0 0 + a / 10)
theorem ct_pitIn {Γ : Gm} {S : St} {a b : Int} (ha : 0 ≤ a ∧ a < 2147483648) : CT Γ y_Pit_takeIn b_Pit_takeIn 3 ((none : Option FieldType)) (rmx 1 0 0) [rf Γ 14 0, nt a, nt b] S (dX none (pitIn S a b)) := by
  refine CT.of (by first | exact plainFor_of_name (by rfl) | decide +kernel) (Nat.le_of_ble_eq_true rfl) ?_
  intro G hG
  show G (0, 0) 0 [(0, rf Γ 14 0), (1, nt a), (2, nt b)] [] _
  refine r_aload_n hG (hl0 := rfl) (hd := d_Pit_takeIn_0) (K := ?_)
  refine r_dup hG (hd := d_Pit_takeIn_1) (K := ?_)
  refine g_Pit_7 hG (hd := d_Pit_takeIn_2) (K := ?_)
  refine r_iload_n hG (hl0 := rfl) (hd := d_Pit_takeIn_5) (K := ?_)
  first | refine r_iadd hG (hd := d_Pit_takeIn_6) (K := ?_) | refine r_iaddr hG (hd := d_Pit_takeIn_6) (K := ?_)
  refine p_Pit_7 hG (hd := d_Pit_takeIn_7) (K := ?_)
  refine r_aload_n hG (hl0 := rfl) (hd := d_Pit_takeIn_10) (K := ?_)
  refine r_dup hG (hd := d_Pit_takeIn_11) (K := ?_)
  refine g_Pit_13 hG (hd := d_Pit_takeIn_12) (K := ?_)
  refine r_iload_n hG (hl0 := rfl) (hd := d_Pit_takeIn_15) (K := ?_)
  first | refine r_iadd hG (hd := d_Pit_takeIn_16) (K := ?_) | refine r_iaddr hG (hd := d_Pit_takeIn_16) (K := ?_)
  refine p_Pit_13 hG (hd := d_Pit_takeIn_17) (K := ?_)
  refine r_aload_n hG (hl0 := rfl) (hd := d_Pit_takeIn_20) (K := ?_)
  refine r_dup hG (hd := d_Pit_takeIn_21) (K := ?_)
  refine g_Pit_16 hG (hd := d_Pit_takeIn_22) (K := ?_)
  refine r_iload_n hG (hl0 := rfl) (hd := d_Pit_takeIn_25) (K := ?_)
  refine r_bipush hG (hd := d_Pit_takeIn_26) (K := ?_)
  refine r_idiv hG (hr0 := by first | omega | (simp [sU]; omega)) (hd := d_Pit_takeIn_28) (K := ?_)
  first | refine r_iadd hG (hd := d_Pit_takeIn_29) (K := ?_) | refine r_iaddr hG (hd := d_Pit_takeIn_29) (K := ?_)
  refine p_Pit_16 hG (hd := d_Pit_takeIn_30) (K := ?_)
  refine r_vret hG d_Pit_takeIn_33 ⟨(Nat.le_of_ble_eq_true rfl), (Nat.le_of_ble_eq_true rfl)⟩ ?_
  exact ⟨rfl, rfl⟩
def gasF (S : St) : St := sU (sU (sU S 72 0 0 (S 72 0 0 + S 71 0 0 / 50)) 71 0 0 (S 71 0 0 - S 71 0 0 / 50)) 70 0 0 (S 70 0 0 - S 71 0 0 / 50)
theorem ct_giveGas {Γ : Gm} {S : St} (ha : 0 ≤ S 71 0 0 ∧ S 71 0 0 < 2147483648) : CT Γ y_Pit_giveGas b_Pit_giveGas 2 ((none : Option FieldType)) (rmx 1 0 0) [rf Γ 14 0] S (dX none (gasF S)) := by
  refine CT.of (by first | exact plainFor_of_name (by rfl) | decide +kernel) (Nat.le_of_ble_eq_true rfl) ?_
  intro G hG
  show G (0, 0) 0 [(0, rf Γ 14 0)] [] _
  refine r_aload_n hG (hl0 := rfl) (hd := d_Pit_giveGas_0) (K := ?_)
  refine g_Pit_13 hG (hd := d_Pit_giveGas_1) (K := ?_)
  refine r_bipush hG (hd := d_Pit_giveGas_4) (K := ?_)
  refine r_idiv hG (hr0 := by first | omega | (simp [sU]; omega)) (hd := d_Pit_giveGas_6) (K := ?_)
  refine r_istore_n hG (hd := d_Pit_giveGas_7) (K := ?_)
  refine r_aload_n hG (hl0 := rfl) (hd := d_Pit_giveGas_8) (K := ?_)
  refine r_dup hG (hd := d_Pit_giveGas_9) (K := ?_)
  refine g_Pit_19 hG (hd := d_Pit_giveGas_10) (K := ?_)
  refine r_iload_n hG (hl0 := rfl) (hd := d_Pit_giveGas_13) (K := ?_)
  first | refine r_iadd hG (hd := d_Pit_giveGas_14) (K := ?_) | refine r_iaddr hG (hd := d_Pit_giveGas_14) (K := ?_)
  refine p_Pit_19 hG (hd := d_Pit_giveGas_15) (K := ?_)
  refine r_aload_n hG (hl0 := rfl) (hd := d_Pit_giveGas_18) (K := ?_)
  refine r_dup hG (hd := d_Pit_giveGas_19) (K := ?_)
  refine g_Pit_13 hG (hd := d_Pit_giveGas_20) (K := ?_)
  refine r_iload_n hG (hl0 := rfl) (hd := d_Pit_giveGas_23) (K := ?_)
  first | refine r_isub hG (hd := d_Pit_giveGas_24) (K := ?_) | refine r_isubr hG (hd := d_Pit_giveGas_24) (K := ?_)
  refine p_Pit_13 hG (hd := d_Pit_giveGas_25) (K := ?_)
  refine r_aload_n hG (hl0 := rfl) (hd := d_Pit_giveGas_28) (K := ?_)
  refine r_dup hG (hd := d_Pit_giveGas_29) (K := ?_)
  refine g_Pit_7 hG (hd := d_Pit_giveGas_30) (K := ?_)
  refine r_iload_n hG (hl0 := rfl) (hd := d_Pit_giveGas_33) (K := ?_)
  first | refine r_isub hG (hd := d_Pit_giveGas_34) (K := ?_) | refine r_isubr hG (hd := d_Pit_giveGas_34) (K := ?_)
  refine p_Pit_7 hG (hd := d_Pit_giveGas_35) (K := ?_)
  refine r_vret hG d_Pit_giveGas_38 ⟨(Nat.le_of_ble_eq_true rfl), (Nat.le_of_ble_eq_true rfl)⟩ ?_
  exact ⟨rfl, rfl⟩
theorem ct_furStart {Γ : Gm} {S : St} : CT Γ y_Furnace_startDay b_Furnace_startDay 1 ((none : Option FieldType)) (rmx 1 0 0) [rf Γ 12 0] S (dX none (sU S 61 0 0 (S 60 0 0))) := by
  refine CT.of (by first | exact plainFor_of_name (by rfl) | decide +kernel) (Nat.le_of_ble_eq_true rfl) ?_
  intro G hG
  show G (0, 0) 0 [(0, rf Γ 12 0)] [] _
  refine r_aload_n hG (hl0 := rfl) (hd := d_Furnace_startDay_0) (K := ?_)
  refine r_aload_n hG (hl0 := rfl) (hd := d_Furnace_startDay_1) (K := ?_)
  refine g_Furnace_7 hG (hd := d_Furnace_startDay_2) (K := ?_)
  refine p_Furnace_13 hG (hd := d_Furnace_startDay_5) (K := ?_)
  refine r_vret hG d_Furnace_startDay_8 ⟨(Nat.le_of_ble_eq_true rfl), (Nat.le_of_ble_eq_true rfl)⟩ ?_
  exact ⟨rfl, rfl⟩
/-- burnt: f of the load, with f = what may still burn -/
def burn1 (S : St) (f : Int) : St := sU (sU (sU (sU S 61 0 0 (S 61 0 0 - f)) 62 0 0 (S 62 0 0 + f)) 64 0 0 (S 64 0 0 + 3 * f)) 63 0 0 (S 63 0 0 + f / 4)
def burnF (S : St) (a : Int) : St := pitIn (pitIn (burn1 S (min a (S 61 0 0))) (min a (S 61 0 0) / 4) 0) (a - min a (S 61 0 0)) ((a - min a (S 61 0 0)) / 2)
theorem ct_burn {Γ : Gm} {S : St} {a : Int} (ha : 0 ≤ a ∧ a < 1000000) (hl : 0 ≤ S 61 0 0 ∧ S 61 0 0 < 1000000) : CT Γ y_Furnace_burn b_Furnace_burn 6 ((none : Option FieldType)) (rmx 2 0 0) [rf Γ 12 0, nt a, rf Γ 14 0] S (dX none (burnF S a)) := by
  refine CT.of (by first | exact plainFor_of_name (by rfl) | decide +kernel) (Nat.le_of_ble_eq_true rfl) ?_
  intro G hG
  show G (0, 0) 0 [(0, rf Γ 12 0), (1, nt a), (2, rf Γ 14 0)] [] _
  refine r_iload_n hG (hl0 := rfl) (hd := d_Furnace_burn_0) (K := ?_)
  refine r_aload_n hG (hl0 := rfl) (hd := d_Furnace_burn_1) (K := ?_)
  refine g_Furnace_13 hG (hd := d_Furnace_burn_2) (K := ?_)
  refine r_mmin hG w_Furnace_16 d_Furnace_burn_5 ⟨(Nat.le_of_ble_eq_true rfl), (Nat.le_of_ble_eq_true rfl)⟩ ⟨(Nat.le_of_ble_eq_true rfl), (Nat.le_of_ble_eq_true rfl)⟩ (by first | omega | (simp [sU]; omega)) ?_
  refine r_istore_n hG (hd := d_Furnace_burn_8) (K := ?_)
  refine r_aload_n hG (hl0 := rfl) (hd := d_Furnace_burn_9) (K := ?_)
  refine r_dup hG (hd := d_Furnace_burn_10) (K := ?_)
  refine g_Furnace_13 hG (hd := d_Furnace_burn_11) (K := ?_)
  refine r_iload_n hG (hl0 := rfl) (hd := d_Furnace_burn_14) (K := ?_)
  first | refine r_isub hG (hd := d_Furnace_burn_15) (K := ?_) | refine r_isubr hG (hd := d_Furnace_burn_15) (K := ?_)
  refine p_Furnace_13 hG (hd := d_Furnace_burn_16) (K := ?_)
  refine r_aload_n hG (hl0 := rfl) (hd := d_Furnace_burn_19) (K := ?_)
  refine r_dup hG (hd := d_Furnace_burn_20) (K := ?_)
  refine g_Furnace_22 hG (hd := d_Furnace_burn_21) (K := ?_)
  refine r_iload_n hG (hl0 := rfl) (hd := d_Furnace_burn_24) (K := ?_)
  first | refine r_iadd hG (hd := d_Furnace_burn_25) (K := ?_) | refine r_iaddr hG (hd := d_Furnace_burn_25) (K := ?_)
  refine p_Furnace_22 hG (hd := d_Furnace_burn_26) (K := ?_)
  refine r_aload_n hG (hl0 := rfl) (hd := d_Furnace_burn_29) (K := ?_)
  refine r_dup hG (hd := d_Furnace_burn_30) (K := ?_)
  refine g_Furnace_25 hG (hd := d_Furnace_burn_31) (K := ?_)
  refine r_iconst hG (hd := d_Furnace_burn_34) (K := ?_)
  refine r_iload_n hG (hl0 := rfl) (hd := d_Furnace_burn_35) (K := ?_)
  refine r_imul hG (hd := d_Furnace_burn_36) (K := ?_)
  first | refine r_iadd hG (hd := d_Furnace_burn_37) (K := ?_) | refine r_iaddr hG (hd := d_Furnace_burn_37) (K := ?_)
  refine p_Furnace_25 hG (hd := d_Furnace_burn_38) (K := ?_)
  refine r_iload_n hG (hl0 := rfl) (hd := d_Furnace_burn_41) (K := ?_)
  refine r_iconst hG (hd := d_Furnace_burn_42) (K := ?_)
  refine r_idiv hG (hr0 := by first | omega | (simp [sU]; omega)) (hd := d_Furnace_burn_43) (K := ?_)
  refine r_istore hG (hd := d_Furnace_burn_44) (K := ?_)
  refine r_aload_n hG (hl0 := rfl) (hd := d_Furnace_burn_46) (K := ?_)
  refine r_dup hG (hd := d_Furnace_burn_47) (K := ?_)
  refine g_Furnace_28 hG (hd := d_Furnace_burn_48) (K := ?_)
  refine r_iload hG (hl0 := rfl) (hd := d_Furnace_burn_51) (K := ?_)
  first | refine r_iadd hG (hd := d_Furnace_burn_53) (K := ?_) | refine r_iaddr hG (hd := d_Furnace_burn_53) (K := ?_)
  refine p_Furnace_28 hG (hd := d_Furnace_burn_54) (K := ?_)
  refine r_aload_n hG (hl0 := rfl) (hd := d_Furnace_burn_57) (K := ?_)
  refine r_iload hG (hl0 := rfl) (hd := d_Furnace_burn_58) (K := ?_)
  refine r_iconst hG (hd := d_Furnace_burn_60) (K := ?_)
  refine cVv hG w_Furnace_31 d_Furnace_burn_61 (ct_pitIn (by omega)) (by decide) (by decide) rc_14 rfl rfl ⟨(Nat.le_of_ble_eq_true rfl), (Nat.le_of_ble_eq_true rfl)⟩ ⟨(Nat.le_of_ble_eq_true rfl), (Nat.le_of_ble_eq_true rfl)⟩ (Nat.le_of_ble_eq_true rfl) ?_
  refine r_iload_n hG (hl0 := rfl) (hd := d_Furnace_burn_64) (K := ?_)
  refine r_iload_n hG (hl0 := rfl) (hd := d_Furnace_burn_65) (K := ?_)
  first | refine r_isub hG (hd := d_Furnace_burn_66) (K := ?_) | refine r_isubr hG (hd := d_Furnace_burn_66) (K := ?_)
  refine r_istore hG (hd := d_Furnace_burn_67) (K := ?_)
  refine r_aload_n hG (hl0 := rfl) (hd := d_Furnace_burn_69) (K := ?_)
  refine r_iload hG (hl0 := rfl) (hd := d_Furnace_burn_70) (K := ?_)
  refine r_iload hG (hl0 := rfl) (hd := d_Furnace_burn_72) (K := ?_)
  refine r_iconst hG (hd := d_Furnace_burn_74) (K := ?_)
  refine r_idiv hG (hr0 := by first | omega | (simp [sU]; omega)) (hd := d_Furnace_burn_75) (K := ?_)
  refine cVv hG w_Furnace_31 d_Furnace_burn_76 (ct_pitIn (by omega)) (by decide) (by decide) rc_14 rfl rfl ⟨(Nat.le_of_ble_eq_true rfl), (Nat.le_of_ble_eq_true rfl)⟩ ⟨(Nat.le_of_ble_eq_true rfl), (Nat.le_of_ble_eq_true rfl)⟩ (Nat.le_of_ble_eq_true rfl) ?_
  refine r_vret hG d_Furnace_burn_79 ⟨(Nat.le_of_ble_eq_true rfl), (Nat.le_of_ble_eq_true rfl)⟩ ?_
  exact ⟨rfl, rfl⟩
theorem ct_lineStart {Γ : Gm} {S : St} : CT Γ y_Line_startDay b_Line_startDay 1 ((none : Option FieldType)) (rmx 1 0 0) [rf Γ 8 0] S (dX none (sU S 47 0 0 (S 46 0 0))) := by
  refine CT.of (by first | exact plainFor_of_name (by rfl) | decide +kernel) (Nat.le_of_ble_eq_true rfl) ?_
  intro G hG
  show G (0, 0) 0 [(0, rf Γ 8 0)] [] _
  refine r_aload_n hG (hl0 := rfl) (hd := d_Line_startDay_0) (K := ?_)
  refine r_aload_n hG (hl0 := rfl) (hd := d_Line_startDay_1) (K := ?_)
  refine g_Line_13 hG (hd := d_Line_startDay_2) (K := ?_)
  refine p_Line_16 hG (hd := d_Line_startDay_5) (K := ?_)
  refine r_vret hG d_Line_startDay_8 ⟨(Nat.le_of_ble_eq_true rfl), (Nat.le_of_ble_eq_true rfl)⟩ ?_
  exact ⟨rfl, rfl⟩
def outF (S : St) (d : Int) : Int := d * S 45 0 0 / 100
def handF (S : St) (d : Int) : Int := min (d - outF S d) (S 47 0 0)
def lineF (S : St) (c d : Int) : St := sU (sU (sU S 47 0 0 (S 47 0 0 - handF S d)) 50 0 0 (S 50 0 0 + (c - c * 5 / 100))) 51 0 0 (S 51 0 0 + (d - outF S d - handF S d))
def lineR (S : St) (c d : Int) : Int := outF S d + handF S d + c * 5 / 100
theorem mul_bound {a b p q : Int} (ha : 0 ≤ a ∧ a ≤ p) (hb : 0 ≤ b ∧ b ≤ q) : 0 ≤ a * b ∧ a * b ≤ p * q := ⟨Int.mul_nonneg ha.1 hb.1, Int.mul_le_mul ha.2 hb.2 hb.1 (Int.le_trans ha.1 ha.2)⟩
theorem outF_in {S : St} {d : Int} (hd : 0 ≤ d ∧ d ≤ 1000) (he : 0 ≤ S 45 0 0 ∧ S 45 0 0 ≤ 100) : 0 ≤ outF S d ∧ outF S d ≤ d := by
  have h := mul_bound hd he
  have h2 : d * S 45 0 0 ≤ d * 100 := Int.mul_le_mul_of_nonneg_left he.2 hd.1
  unfold outF
  omega
theorem ct_sort {Γ : Gm} {S : St} {c d : Int} (hc : 0 ≤ c ∧ c ≤ 1000) (hd : 0 ≤ d ∧ d ≤ 1000) (he : 0 ≤ S 45 0 0 ∧ S 45 0 0 ≤ 100) (hh : 0 ≤ S 47 0 0 ∧ S 47 0 0 ≤ 1000) : CT Γ y_Line_sort b_Line_sort 7 ((some FieldType.int)) (rmx 2 0 0) [rf Γ 8 0, nt c, nt d, rf Γ 9 0] S (dX (some (nt (lineR S c d))) (lineF S c d)) := by
  have h := mul_bound hd he
  have h2 := outF_in hd he
  unfold outF at h2
  refine CT.of (by first | exact plainFor_of_name (by rfl) | decide +kernel) (Nat.le_of_ble_eq_true rfl) ?_
  intro G hG
  show G (0, 0) 0 [(0, rf Γ 8 0), (1, nt c), (2, nt d), (3, rf Γ 9 0)] [] _
  refine r_iload_n hG (hl0 := rfl) (hd := d_Line_sort_0) (K := ?_)
  refine r_aload_n hG (hl0 := rfl) (hd := d_Line_sort_1) (K := ?_)
  refine g_Line_7 hG (hd := d_Line_sort_2) (K := ?_)
  refine r_imul hG (hd := d_Line_sort_5) (K := ?_)
  refine r_bipush hG (hd := d_Line_sort_6) (K := ?_)
  refine r_idiv hG (hr0 := by first | omega | (simp [sU]; omega)) (hd := d_Line_sort_8) (K := ?_)
  refine r_istore hG (hd := d_Line_sort_9) (K := ?_)
  refine r_iload_n hG (hl0 := rfl) (hd := d_Line_sort_11) (K := ?_)
  refine r_iload hG (hl0 := rfl) (hd := d_Line_sort_12) (K := ?_)
  first | refine r_isub hG (hd := d_Line_sort_14) (K := ?_) | refine r_isubr hG (hd := d_Line_sort_14) (K := ?_)
  refine r_aload_n hG (hl0 := rfl) (hd := d_Line_sort_15) (K := ?_)
  refine g_Line_16 hG (hd := d_Line_sort_16) (K := ?_)
  refine r_mmin hG w_Line_19 d_Line_sort_19 ⟨(Nat.le_of_ble_eq_true rfl), (Nat.le_of_ble_eq_true rfl)⟩ ⟨(Nat.le_of_ble_eq_true rfl), (Nat.le_of_ble_eq_true rfl)⟩ (by first | omega | (simp [sU]; omega)) ?_
  refine r_istore hG (hd := d_Line_sort_22) (K := ?_)
  refine r_aload_n hG (hl0 := rfl) (hd := d_Line_sort_24) (K := ?_)
  refine r_dup hG (hd := d_Line_sort_25) (K := ?_)
  refine g_Line_16 hG (hd := d_Line_sort_26) (K := ?_)
  refine r_iload hG (hl0 := rfl) (hd := d_Line_sort_29) (K := ?_)
  first | refine r_isub hG (hd := d_Line_sort_31) (K := ?_) | refine r_isubr hG (hd := d_Line_sort_31) (K := ?_)
  refine p_Line_16 hG (hd := d_Line_sort_32) (K := ?_)
  refine r_iload_n hG (hl0 := rfl) (hd := d_Line_sort_35) (K := ?_)
  refine r_iconst hG (hd := d_Line_sort_36) (K := ?_)
  refine r_imul hG (hd := d_Line_sort_37) (K := ?_)
  refine r_bipush hG (hd := d_Line_sort_38) (K := ?_)
  refine r_idiv hG (hr0 := by first | omega | (simp [sU]; omega)) (hd := d_Line_sort_40) (K := ?_)
  refine r_istore hG (hd := d_Line_sort_41) (K := ?_)
  refine r_aload_n hG (hl0 := rfl) (hd := d_Line_sort_43) (K := ?_)
  refine r_dup hG (hd := d_Line_sort_44) (K := ?_)
  refine g_Line_25 hG (hd := d_Line_sort_45) (K := ?_)
  refine r_iload_n hG (hl0 := rfl) (hd := d_Line_sort_48) (K := ?_)
  refine r_iload hG (hl0 := rfl) (hd := d_Line_sort_49) (K := ?_)
  first | refine r_isub hG (hd := d_Line_sort_51) (K := ?_) | refine r_isubr hG (hd := d_Line_sort_51) (K := ?_)
  first | refine r_iadd hG (hd := d_Line_sort_52) (K := ?_) | refine r_iaddr hG (hd := d_Line_sort_52) (K := ?_)
  refine p_Line_25 hG (hd := d_Line_sort_53) (K := ?_)
  refine r_aload_n hG (hl0 := rfl) (hd := d_Line_sort_56) (K := ?_)
  refine r_dup hG (hd := d_Line_sort_57) (K := ?_)
  refine g_Line_30 hG (hd := d_Line_sort_58) (K := ?_)
  refine r_iload_n hG (hl0 := rfl) (hd := d_Line_sort_61) (K := ?_)
  refine r_iload hG (hl0 := rfl) (hd := d_Line_sort_62) (K := ?_)
  first | refine r_isub hG (hd := d_Line_sort_64) (K := ?_) | refine r_isubr hG (hd := d_Line_sort_64) (K := ?_)
  refine r_iload hG (hl0 := rfl) (hd := d_Line_sort_65) (K := ?_)
  first | refine r_isub hG (hd := d_Line_sort_67) (K := ?_) | refine r_isubr hG (hd := d_Line_sort_67) (K := ?_)
  first | refine r_iadd hG (hd := d_Line_sort_68) (K := ?_) | refine r_iaddr hG (hd := d_Line_sort_68) (K := ?_)
  refine p_Line_30 hG (hd := d_Line_sort_69) (K := ?_)
  refine r_iload hG (hl0 := rfl) (hd := d_Line_sort_72) (K := ?_)
  refine r_iload hG (hl0 := rfl) (hd := d_Line_sort_74) (K := ?_)
  first | refine r_iadd hG (hd := d_Line_sort_76) (K := ?_) | refine r_iaddr hG (hd := d_Line_sort_76) (K := ?_)
  refine r_iload hG (hl0 := rfl) (hd := d_Line_sort_77) (K := ?_)
  first | refine r_iadd hG (hd := d_Line_sort_79) (K := ?_) | refine r_iaddr hG (hd := d_Line_sort_79) (K := ?_)
  refine r_iret hG d_Line_sort_80 ⟨(Nat.le_of_ble_eq_true rfl), (Nat.le_of_ble_eq_true rfl)⟩ ?_
  exact ⟨rfl, rfl⟩
theorem ct_heapIn {Γ : Gm} {S : St} {a b : Int} : CT Γ y_Heap_takeIn b_Heap_takeIn 3 ((none : Option FieldType)) (rmx 1 0 0) [rf Γ 13 0, nt a, nt b] S (dX none (sU (sU (sU S 65 0 0 (S 65 0 0 + a)) 66 0 0 (S 66 0 0 + b)) 69 0 0 (S 69 0 0 + (a + b)))) := by
  refine CT.of (by first | exact plainFor_of_name (by rfl) | decide +kernel) (Nat.le_of_ble_eq_true rfl) ?_
  intro G hG
  show G (0, 0) 0 [(0, rf Γ 13 0), (1, nt a), (2, nt b)] [] _
  refine r_aload_n hG (hl0 := rfl) (hd := d_Heap_takeIn_0) (K := ?_)
  refine r_dup hG (hd := d_Heap_takeIn_1) (K := ?_)
  refine g_Heap_7 hG (hd := d_Heap_takeIn_2) (K := ?_)
  refine r_iload_n hG (hl0 := rfl) (hd := d_Heap_takeIn_5) (K := ?_)
  first | refine r_iadd hG (hd := d_Heap_takeIn_6) (K := ?_) | refine r_iaddr hG (hd := d_Heap_takeIn_6) (K := ?_)
  refine p_Heap_7 hG (hd := d_Heap_takeIn_7) (K := ?_)
  refine r_aload_n hG (hl0 := rfl) (hd := d_Heap_takeIn_10) (K := ?_)
  refine r_dup hG (hd := d_Heap_takeIn_11) (K := ?_)
  refine g_Heap_13 hG (hd := d_Heap_takeIn_12) (K := ?_)
  refine r_iload_n hG (hl0 := rfl) (hd := d_Heap_takeIn_15) (K := ?_)
  first | refine r_iadd hG (hd := d_Heap_takeIn_16) (K := ?_) | refine r_iaddr hG (hd := d_Heap_takeIn_16) (K := ?_)
  refine p_Heap_13 hG (hd := d_Heap_takeIn_17) (K := ?_)
  refine r_aload_n hG (hl0 := rfl) (hd := d_Heap_takeIn_20) (K := ?_)
  refine r_dup hG (hd := d_Heap_takeIn_21) (K := ?_)
  refine g_Heap_16 hG (hd := d_Heap_takeIn_22) (K := ?_)
  refine r_iload_n hG (hl0 := rfl) (hd := d_Heap_takeIn_25) (K := ?_)
  refine r_iload_n hG (hl0 := rfl) (hd := d_Heap_takeIn_26) (K := ?_)
  first | refine r_iadd hG (hd := d_Heap_takeIn_27) (K := ?_) | refine r_iaddr hG (hd := d_Heap_takeIn_27) (K := ?_)
  first | refine r_iadd hG (hd := d_Heap_takeIn_28) (K := ?_) | refine r_iaddr hG (hd := d_Heap_takeIn_28) (K := ?_)
  refine p_Heap_16 hG (hd := d_Heap_takeIn_29) (K := ?_)
  refine r_vret hG d_Heap_takeIn_32 ⟨(Nat.le_of_ble_eq_true rfl), (Nat.le_of_ble_eq_true rfl)⟩ ?_
  exact ⟨rfl, rfl⟩
theorem ct_bkilos {Γ : Gm} {S : St} : CT Γ y_Baler_kilos b_Baler_kilos 1 ((some FieldType.int)) (rmx 1 0 0) [rf Γ 9 0] S (dX (some (nt (S 50 0 0 + S 51 0 0))) S) := by
  refine CT.of (by first | exact plainFor_of_name (by rfl) | decide +kernel) (Nat.le_of_ble_eq_true rfl) ?_
  intro G hG
  show G (0, 0) 0 [(0, rf Γ 9 0)] [] _
  refine r_aload_n hG (hl0 := rfl) (hd := d_Baler_kilos_0) (K := ?_)
  refine g_Baler_18 hG (hd := d_Baler_kilos_1) (K := ?_)
  refine r_aload_n hG (hl0 := rfl) (hd := d_Baler_kilos_4) (K := ?_)
  refine g_Baler_22 hG (hd := d_Baler_kilos_5) (K := ?_)
  first | refine r_iadd hG (hd := d_Baler_kilos_8) (K := ?_) | refine r_iaddr hG (hd := d_Baler_kilos_8) (K := ?_)
  refine r_iret hG d_Baler_kilos_9 ⟨(Nat.le_of_ble_eq_true rfl), (Nat.le_of_ble_eq_true rfl)⟩ ?_
  exact ⟨rfl, rfl⟩
def unpF (S : St) (b : Nat) : St := sU (sU (sU (sU (sU S 50 0 0 (S 50 0 0 + S 55 b 0)) 51 0 0 (S 51 0 0 + S 56 b 0)) 55 b 0 0) 56 b 0 0) 57 b 0 3
theorem ct_unpack {Γ : Gm} {S : St} {b : Nat} (hb : b < 20) : CT Γ y_Baler_unpack b_Baler_unpack 2 ((none : Option FieldType)) (rmx 1 0 0) [rf Γ 9 0, rf Γ 11 b] S (dX none (unpF S b)) := by
  refine CT.of (by first | exact plainFor_of_name (by rfl) | decide +kernel) (Nat.le_of_ble_eq_true rfl) ?_
  intro G hG
  show G (0, 0) 0 [(0, rf Γ 9 0), (1, rf Γ 11 b)] [] _
  refine r_aload_n hG (hl0 := rfl) (hd := d_Baler_unpack_0) (K := ?_)
  refine r_dup hG (hd := d_Baler_unpack_1) (K := ?_)
  refine g_Baler_18 hG (hd := d_Baler_unpack_2) (K := ?_)
  refine r_aload_n hG (hl0 := rfl) (hd := d_Baler_unpack_5) (K := ?_)
  refine g_Baler_33 hG (hi := by omega) (hd := d_Baler_unpack_6) (K := ?_)
  first | refine r_iadd hG (hd := d_Baler_unpack_9) (K := ?_) | refine r_iaddr hG (hd := d_Baler_unpack_9) (K := ?_)
  refine p_Baler_18 hG (hd := d_Baler_unpack_10) (K := ?_)
  refine r_aload_n hG (hl0 := rfl) (hd := d_Baler_unpack_13) (K := ?_)
  refine r_dup hG (hd := d_Baler_unpack_14) (K := ?_)
  refine g_Baler_22 hG (hd := d_Baler_unpack_15) (K := ?_)
  refine r_aload_n hG (hl0 := rfl) (hd := d_Baler_unpack_18) (K := ?_)
  refine g_Baler_32 hG (hi := by omega) (hd := d_Baler_unpack_19) (K := ?_)
  first | refine r_iadd hG (hd := d_Baler_unpack_22) (K := ?_) | refine r_iaddr hG (hd := d_Baler_unpack_22) (K := ?_)
  refine p_Baler_22 hG (hd := d_Baler_unpack_23) (K := ?_)
  refine r_aload_n hG (hl0 := rfl) (hd := d_Baler_unpack_26) (K := ?_)
  refine r_iconst hG (hd := d_Baler_unpack_27) (K := ?_)
  refine p_Baler_33 hG (hi := by omega) (hd := d_Baler_unpack_28) (K := ?_)
  refine r_aload_n hG (hl0 := rfl) (hd := d_Baler_unpack_31) (K := ?_)
  refine r_iconst hG (hd := d_Baler_unpack_32) (K := ?_)
  refine p_Baler_32 hG (hi := by omega) (hd := d_Baler_unpack_33) (K := ?_)
  refine r_aload_n hG (hl0 := rfl) (hd := d_Baler_unpack_36) (K := ?_)
  refine r_iconst hG (hd := d_Baler_unpack_37) (K := ?_)
  refine p_Baler_37 hG (hi := by omega) (hd := d_Baler_unpack_38) (K := ?_)
  refine r_vret hG d_Baler_unpack_41 ⟨(Nat.le_of_ble_eq_true rfl), (Nat.le_of_ble_eq_true rfl)⟩ ?_
  exact ⟨rfl, rfl⟩
def cntIn (S : St) (s : Int) : Nat → Int
  | 0 => 0
  | k + 1 => cntIn S s k + (if S 57 k 0 = s then 1 else 0)
theorem ct_countIn {Γ : Gm} {S : St} {s : Int} {n : Nat} (hn : S 52 0 0 = (n : Int)) (hn20 : n ≤ 20) (hs : 0 ≤ s ∧ s ≤ 3) (hb : ∀ b, b < 20 → 0 ≤ S 57 b 0 ∧ S 57 b 0 ≤ 3) : CT Γ y_Baler_countIn b_Baler_countIn 4 ((some FieldType.int)) (rmx 1 0 0) [rf Γ 9 0, nt s] S (dX (some (nt (cntIn S s n))) S) := by
  refine CT.of (by first | exact plainFor_of_name (by rfl) | decide +kernel) (Nat.le_of_ble_eq_true rfl) ?_
  intro G hG
  show G (0, 0) 0 [(0, rf Γ 9 0), (1, nt s)] [] _
  refine r_iconst hG (hd := d_Baler_countIn_0) (K := ?_)
  refine r_istore_n hG (hd := d_Baler_countIn_1) (K := ?_)
  refine r_iconst hG (hd := d_Baler_countIn_2) (K := ?_)
  refine r_istore_n hG (hd := d_Baler_countIn_3) (K := ?_)
  have loop : ∀ m i : Nat, i + m = n → G (0, 0) 4 [(0, rf Γ 9 0), (1, nt s), (2, nt (cntIn S s i)), (3, nt i)] [] S := by
    intro m
    induction m with
    | zero =>
      intro i hi
      have hin : i = n := by omega
      subst hin
      refine r_iload_n hG (hl0 := rfl) (hd := d_Baler_countIn_4) (K := ?_)
      refine r_aload_n hG (hl0 := rfl) (hd := d_Baler_countIn_5) (K := ?_)
      refine g_Baler_25 hG (hd := d_Baler_countIn_6) (K := ?_)
      refine r_icmp_ge hG (hd := d_Baler_countIn_9) (kt := fun _ => ?_) (kf := fun hh => absurd hh (by omega))
      refine r_iload_n hG (hl0 := rfl) (hd := d_Baler_countIn_34) (K := ?_)
      refine r_iret hG d_Baler_countIn_35 ⟨(Nat.le_of_ble_eq_true rfl), (Nat.le_of_ble_eq_true rfl)⟩ ?_
      exact ⟨rfl, rfl⟩
    | succ m ih =>
      intro i hi
      have h57 := hb i (by omega)
      refine r_iload_n hG (hl0 := rfl) (hd := d_Baler_countIn_4) (K := ?_)
      refine r_aload_n hG (hl0 := rfl) (hd := d_Baler_countIn_5) (K := ?_)
      refine g_Baler_25 hG (hd := d_Baler_countIn_6) (K := ?_)
      refine r_icmp_ge hG (hd := d_Baler_countIn_9) (kt := fun hh => absurd hh (by omega)) (kf := fun _ => ?_)
      refine r_aload_n hG (hl0 := rfl) (hd := d_Baler_countIn_12) (K := ?_)
      refine g_Baler_11 hG (hd := d_Baler_countIn_13) (K := ?_)
      refine r_iload_n hG (hl0 := rfl) (hd := d_Baler_countIn_16) (K := ?_)
      first | refine a_1 hG (hd := d_Baler_countIn_17) (hz := rfl) (hj := by omega) (hi := by omega) (K := ?_) | refine a_2 hG (hd := d_Baler_countIn_17) (hz := rfl) (hj := by omega) (hi := by omega) (K := ?_) | refine a_10 hG (hd := d_Baler_countIn_17) (hz := rfl) (hj := by omega) (hi := by omega) (K := ?_) | refine r_aald22 hG (hd := d_Baler_countIn_17) (hz := rfl) (hj := by omega) (hi := by omega) (K := ?_)
      refine g_Baler_37 hG (hi := by omega) (hd := d_Baler_countIn_18) (K := ?_)
      refine r_iload_n hG (hl0 := rfl) (hd := d_Baler_countIn_21) (K := ?_)
      refine r_icmp_ne hG (hd := d_Baler_countIn_22) (kt := fun h => ?_) (kf := fun h => ?_)
      · have e : cntIn S s (i + 1) = cntIn S s i := by simp [cntIn, h]
        refine r_iinc hG (hl0 := rfl) (hd := d_Baler_countIn_28) (K := ?_)
        refine r_goto hG (hd := d_Baler_countIn_31) (K := ?_)
        have q := ih (i + 1) (by omega)
        rw [e] at q
        exact r_sb hG (q) ⟨rfl, rfl, rfl, rfl, trivial⟩
      · have e : cntIn S s (i + 1) = cntIn S s i + 1 := by simp [cntIn, h]
        refine r_iinc hG (hl0 := rfl) (hd := d_Baler_countIn_25) (K := ?_)
        refine r_iinc hG (hl0 := rfl) (hd := d_Baler_countIn_28) (K := ?_)
        refine r_goto hG (hd := d_Baler_countIn_31) (K := ?_)
        have q := ih (i + 1) (by omega)
        rw [e] at q
        exact r_sb hG (q) ⟨rfl, rfl, rfl, rfl, trivial⟩
  exact r_sb hG (loop n 0 (by omega)) ⟨rfl, rfl, rfl, rfl, trivial⟩
end
section
/-! BALES, BINS -/
def dirtyIn (S : St) : Nat → Int
  | 0 => 0
  | k + 1 => dirtyIn S k + S 56 k 0
theorem ct_dirtyIn {Γ : Gm} {S : St} {n : Nat} (hn : S 52 0 0 = (n : Int)) (hn20 : n ≤ 20) : CT Γ y_Baler_dirtyInBales b_Baler_dirtyInBales 3 ((some FieldType.int)) (rmx 1 0 0) [rf Γ 9 0] S (dX (some (nt (dirtyIn S n))) S) := by
  refine CT.of (by first | exact plainFor_of_name (by rfl) | decide +kernel) (Nat.le_of_ble_eq_true rfl) ?_
  intro G hG
  show G (0, 0) 0 [(0, rf Γ 9 0)] [] _
  refine r_iconst hG (hd := d_Baler_dirtyInBales_0) (K := ?_)
  refine r_istore_n hG (hd := d_Baler_dirtyInBales_1) (K := ?_)
  refine r_iconst hG (hd := d_Baler_dirtyInBales_2) (K := ?_)
  refine r_istore_n hG (hd := d_Baler_dirtyInBales_3) (K := ?_)
  have loop : ∀ m i : Nat, i + m = n → G (0, 0) 4 [(0, rf Γ 9 0), (1, nt (dirtyIn S i)), (2, nt i)] [] S := by
    intro m
    induction m with
    | zero =>
      intro i hi
      have hin : i = n := by omega
      subst hin
      refine r_iload_n hG (hl0 := rfl) (hd := d_Baler_dirtyInBales_4) (K := ?_)
      refine r_aload_n hG (hl0 := rfl) (hd := d_Baler_dirtyInBales_5) (K := ?_)
      refine g_Baler_25 hG (hd := d_Baler_dirtyInBales_6) (K := ?_)
      refine r_icmp_ge hG (hd := d_Baler_dirtyInBales_9) (kt := fun _ => ?_) (kf := fun hh => absurd hh (by omega))
      refine r_iload_n hG (hl0 := rfl) (hd := d_Baler_dirtyInBales_30) (K := ?_)
      refine r_iret hG d_Baler_dirtyInBales_31 ⟨(Nat.le_of_ble_eq_true rfl), (Nat.le_of_ble_eq_true rfl)⟩ ?_
      exact ⟨rfl, rfl⟩
    | succ m ih =>
      intro i hi
      refine r_iload_n hG (hl0 := rfl) (hd := d_Baler_dirtyInBales_4) (K := ?_)
      refine r_aload_n hG (hl0 := rfl) (hd := d_Baler_dirtyInBales_5) (K := ?_)
      refine g_Baler_25 hG (hd := d_Baler_dirtyInBales_6) (K := ?_)
      refine r_icmp_ge hG (hd := d_Baler_dirtyInBales_9) (kt := fun hh => absurd hh (by omega)) (kf := fun _ => ?_)
      refine r_iload_n hG (hl0 := rfl) (hd := d_Baler_dirtyInBales_12) (K := ?_)
      refine r_aload_n hG (hl0 := rfl) (hd := d_Baler_dirtyInBales_13) (K := ?_)
      refine g_Baler_11 hG (hd := d_Baler_dirtyInBales_14) (K := ?_)
      refine r_iload_n hG (hl0 := rfl) (hd := d_Baler_dirtyInBales_17) (K := ?_)
      first | refine a_1 hG (hd := d_Baler_dirtyInBales_18) (hz := rfl) (hj := by omega) (hi := by omega) (K := ?_) | refine a_2 hG (hd := d_Baler_dirtyInBales_18) (hz := rfl) (hj := by omega) (hi := by omega) (K := ?_) | refine a_10 hG (hd := d_Baler_dirtyInBales_18) (hz := rfl) (hj := by omega) (hi := by omega) (K := ?_) | refine r_aald22 hG (hd := d_Baler_dirtyInBales_18) (hz := rfl) (hj := by omega) (hi := by omega) (K := ?_)
      refine g_Baler_32 hG (hi := by omega) (hd := d_Baler_dirtyInBales_19) (K := ?_)
      first | refine r_iadd hG (hd := d_Baler_dirtyInBales_22) (K := ?_) | refine r_iaddr hG (hd := d_Baler_dirtyInBales_22) (K := ?_)
      refine r_istore_n hG (hd := d_Baler_dirtyInBales_23) (K := ?_)
      refine r_iinc hG (hl0 := rfl) (hd := d_Baler_dirtyInBales_24) (K := ?_)
      refine r_goto hG (hd := d_Baler_dirtyInBales_27) (K := ?_)
      exact r_sb hG (ih (i + 1) (by omega)) ⟨rfl, rfl, rfl, trivial⟩
  exact r_sb hG (loop n 0 (by omega)) ⟨rfl, rfl, rfl, trivial⟩
def cleanSold (S : St) : Nat → Int
  | 0 => 0
  | k + 1 => cleanSold S k + (if S 57 k 0 = 1 then S 55 k 0 else 0)
theorem ct_cleanSold {Γ : Gm} {S : St} {n : Nat} (hn : S 52 0 0 = (n : Int)) (hn20 : n ≤ 20) (hb : ∀ b, b < 20 → 0 ≤ S 57 b 0 ∧ S 57 b 0 ≤ 3) : CT Γ y_Baler_cleanSold b_Baler_cleanSold 3 ((some FieldType.int)) (rmx 1 0 0) [rf Γ 9 0] S (dX (some (nt (cleanSold S n))) S) := by
  refine CT.of (by first | exact plainFor_of_name (by rfl) | decide +kernel) (Nat.le_of_ble_eq_true rfl) ?_
  intro G hG
  show G (0, 0) 0 [(0, rf Γ 9 0)] [] _
  refine r_iconst hG (hd := d_Baler_cleanSold_0) (K := ?_)
  refine r_istore_n hG (hd := d_Baler_cleanSold_1) (K := ?_)
  refine r_iconst hG (hd := d_Baler_cleanSold_2) (K := ?_)
  refine r_istore_n hG (hd := d_Baler_cleanSold_3) (K := ?_)
  have loop : ∀ m i : Nat, i + m = n → G (0, 0) 4 [(0, rf Γ 9 0), (1, nt (cleanSold S i)), (2, nt i)] [] S := by
    intro m
    induction m with
    | zero =>
      intro i hi
      have hin : i = n := by omega
      subst hin
      refine r_iload_n hG (hl0 := rfl) (hd := d_Baler_cleanSold_4) (K := ?_)
      refine r_aload_n hG (hl0 := rfl) (hd := d_Baler_cleanSold_5) (K := ?_)
      refine g_Baler_25 hG (hd := d_Baler_cleanSold_6) (K := ?_)
      refine r_icmp_ge hG (hd := d_Baler_cleanSold_9) (kt := fun _ => ?_) (kf := fun hh => absurd hh (by omega))
      refine r_iload_n hG (hl0 := rfl) (hd := d_Baler_cleanSold_43) (K := ?_)
      refine r_iret hG d_Baler_cleanSold_44 ⟨(Nat.le_of_ble_eq_true rfl), (Nat.le_of_ble_eq_true rfl)⟩ ?_
      exact ⟨rfl, rfl⟩
    | succ m ih =>
      intro i hi
      have h57 := hb i (by omega)
      refine r_iload_n hG (hl0 := rfl) (hd := d_Baler_cleanSold_4) (K := ?_)
      refine r_aload_n hG (hl0 := rfl) (hd := d_Baler_cleanSold_5) (K := ?_)
      refine g_Baler_25 hG (hd := d_Baler_cleanSold_6) (K := ?_)
      refine r_icmp_ge hG (hd := d_Baler_cleanSold_9) (kt := fun hh => absurd hh (by omega)) (kf := fun _ => ?_)
      refine r_aload_n hG (hl0 := rfl) (hd := d_Baler_cleanSold_12) (K := ?_)
      refine g_Baler_11 hG (hd := d_Baler_cleanSold_13) (K := ?_)
      refine r_iload_n hG (hl0 := rfl) (hd := d_Baler_cleanSold_16) (K := ?_)
      first | refine a_1 hG (hd := d_Baler_cleanSold_17) (hz := rfl) (hj := by omega) (hi := by omega) (K := ?_) | refine a_2 hG (hd := d_Baler_cleanSold_17) (hz := rfl) (hj := by omega) (hi := by omega) (K := ?_) | refine a_10 hG (hd := d_Baler_cleanSold_17) (hz := rfl) (hj := by omega) (hi := by omega) (K := ?_) | refine r_aald22 hG (hd := d_Baler_cleanSold_17) (hz := rfl) (hj := by omega) (hi := by omega) (K := ?_)
      refine g_Baler_37 hG (hi := by omega) (hd := d_Baler_cleanSold_18) (K := ?_)
      refine r_iconst hG (hd := d_Baler_cleanSold_21) (K := ?_)
      refine r_icmp_ne hG (hd := d_Baler_cleanSold_22) (kt := fun h => ?_) (kf := fun h => ?_)
      · have e : cleanSold S (i + 1) = cleanSold S i := by simp [cleanSold, h]
        refine r_iinc hG (hl0 := rfl) (hd := d_Baler_cleanSold_37) (K := ?_)
        refine r_goto hG (hd := d_Baler_cleanSold_40) (K := ?_)
        have q := ih (i + 1) (by omega)
        rw [e] at q
        exact r_sb hG (q) ⟨rfl, rfl, rfl, trivial⟩
      · have e : cleanSold S (i + 1) = cleanSold S i + S 55 i 0 := by simp [cleanSold, h]
        refine r_iload_n hG (hl0 := rfl) (hd := d_Baler_cleanSold_25) (K := ?_)
        refine r_aload_n hG (hl0 := rfl) (hd := d_Baler_cleanSold_26) (K := ?_)
        refine g_Baler_11 hG (hd := d_Baler_cleanSold_27) (K := ?_)
        refine r_iload_n hG (hl0 := rfl) (hd := d_Baler_cleanSold_30) (K := ?_)
        first | refine a_1 hG (hd := d_Baler_cleanSold_31) (hz := rfl) (hj := by omega) (hi := by omega) (K := ?_) | refine a_2 hG (hd := d_Baler_cleanSold_31) (hz := rfl) (hj := by omega) (hi := by omega) (K := ?_) | refine a_10 hG (hd := d_Baler_cleanSold_31) (hz := rfl) (hj := by omega) (hi := by omega) (K := ?_) | refine r_aald22 hG (hd := d_Baler_cleanSold_31) (hz := rfl) (hj := by omega) (hi := by omega) (K := ?_)
        refine g_Baler_33 hG (hi := by omega) (hd := d_Baler_cleanSold_32) (K := ?_)
        first | refine r_iadd hG (hd := d_Baler_cleanSold_35) (K := ?_) | refine r_iaddr hG (hd := d_Baler_cleanSold_35) (K := ?_)
        refine r_istore_n hG (hd := d_Baler_cleanSold_36) (K := ?_)
        refine r_iinc hG (hl0 := rfl) (hd := d_Baler_cleanSold_37) (K := ?_)
        refine r_goto hG (hd := d_Baler_cleanSold_40) (K := ?_)
        have q := ih (i + 1) (by omega)
        rw [e] at q
        exact r_sb hG (q) ⟨rfl, rfl, rfl, trivial⟩
  exact r_sb hG (loop n 0 (by omega)) ⟨rfl, rfl, rfl, trivial⟩
theorem bale_in {c d : Int} (hc : 0 ≤ c) (hd : 0 ≤ d) (hk : 40 ≤ c + d) : 0 ≤ d * 40 / (c + d) ∧ d * 40 / (c + d) ≤ 40 ∧ d * 40 / (c + d) ≤ d ∧ 40 - d * 40 / (c + d) ≤ c := by
  have kpos : 0 < c + d := by omega
  have q0 : 0 ≤ d * 40 / (c + d) := Int.ediv_nonneg (by omega) (by omega)
  have e1 : d * 40 / (c + d) * (c + d) ≤ d * 40 := Int.ediv_mul_le _ (by omega)
  have e2 : d * 40 < (d * 40 / (c + d) + 1) * (c + d) := Int.lt_ediv_add_one_mul_self _ kpos
  generalize d * 40 / (c + d) = q at q0 e1 e2 ⊢
  refine ⟨q0, ?_, ?_, ?_⟩
  · rcases Int.lt_or_le 40 q with h | h
    · have := Int.mul_le_mul_of_nonneg_right (show (41 : Int) ≤ q by omega) (show 0 ≤ c + d by omega)
      omega
    · exact h
  · rcases Int.lt_or_le d q with h | h
    · have h1 := Int.mul_le_mul_of_nonneg_right (show d + 1 ≤ q by omega) (show 0 ≤ c + d by omega)
      have h2 := Int.mul_le_mul_of_nonneg_left hk (show 0 ≤ d + 1 by omega)
      omega
    · exact h
  · rcases Int.lt_or_le c (40 - q) with h | h
    · have h1 := Int.mul_le_mul_of_nonneg_right (show q + 1 ≤ 40 - c by omega) (show 0 ≤ c + d by omega)
      have h2 := Int.mul_le_mul_of_nonneg_left hk hc
      rw [Int.sub_mul] at h1
      omega
    · exact h
/-- one bale is made -/
def prs (S : St) (b : Nat) (day : Int) : St :=
  let S1 := sU S 56 b 0 (S 51 0 0 * 40 / (S 50 0 0 + S 51 0 0))
  let S2 := sU S1 55 b 0 (40 - S1 56 b 0)
  let S3 := sU S2 58 b 0 day
  let S4 := sU S3 51 0 0 (S3 51 0 0 - S3 56 b 0)
  let S5 := sU S4 50 0 0 (S4 50 0 0 - S4 55 b 0)
  sU S5 52 0 0 (S5 52 0 0 + 1)
def prsN (day : Int) : Nat → Nat → St → St
  | 0, _, S => S
  | m + 1, b, S => if 40 ≤ S 50 0 0 + S 51 0 0 then prsN day m (b + 1) (prs S b day) else S
theorem prs_50 (S : St) (b : Nat) (day : Int) : prs S b day 50 0 0 = S 50 0 0 - (40 - S 51 0 0 * 40 / (S 50 0 0 + S 51 0 0)) := by simp [prs, sU]
theorem prs_51 (S : St) (b : Nat) (day : Int) : prs S b day 51 0 0 = S 51 0 0 - S 51 0 0 * 40 / (S 50 0 0 + S 51 0 0) := by simp [prs, sU]
theorem prs_52 (S : St) (b : Nat) (day : Int) : prs S b day 52 0 0 = S 52 0 0 + 1 := by simp [prs, sU]
theorem ct_press {Γ : Gm} {S : St} {n : Nat} {day : Int} (hn : S 52 0 0 = (n : Int)) (hn20 : n ≤ 20) (hc : 0 ≤ S 50 0 0 ∧ S 50 0 0 < 1000000) (hd : 0 ≤ S 51 0 0 ∧ S 51 0 0 < 1000000) : CT Γ y_Baler_press b_Baler_press 4 ((none : Option FieldType)) (rmx 2 0 0) [rf Γ 9 0, nt day] S (dX none (prsN day (20 - n) n S)) := by
  refine CT.of (by first | exact plainFor_of_name (by rfl) | decide +kernel) (Nat.le_of_ble_eq_true rfl) ?_
  intro G hG
  show G (0, 0) 0 [(0, rf Γ 9 0), (1, nt day)] [] _
  refine r_aload_n hG (hl0 := rfl) (hd := d_Baler_press_0) (K := ?_)
  refine g_Baler_25 hG (hd := d_Baler_press_1) (K := ?_)
  refine r_istore_n hG (hd := d_Baler_press_4) (K := ?_)
  rw [hn]
  have loop : ∀ m i : Nat, i + m = 20 → ∀ (S : St), S 52 0 0 = (i : Int) → (0 ≤ S 50 0 0 ∧ S 50 0 0 < 1000000) → (0 ≤ S 51 0 0 ∧ S 51 0 0 < 1000000) → G (0, 0) 101 [] [] (prsN day m i S) → G (0, 0) 5 [(0, rf Γ 9 0), (1, nt day), (2, nt i)] [] S := by
    intro m
    induction m with
    | zero =>
      intro i hi S _ _ _ K
      refine r_iload_n hG (hl0 := rfl) (hd := d_Baler_press_5) (K := ?_)
      refine r_bipush hG (hd := d_Baler_press_6) (K := ?_)
      refine r_icmp_ge hG (hd := d_Baler_press_8) (kt := fun _ => ?_) (kf := fun hh => absurd hh (by omega))
      exact r_sb hG (K) trivial
    | succ m ih =>
      intro i hi S h52 h50 h51 K
      refine r_iload_n hG (hl0 := rfl) (hd := d_Baler_press_5) (K := ?_)
      refine r_bipush hG (hd := d_Baler_press_6) (K := ?_)
      refine r_icmp_ge hG (hd := d_Baler_press_8) (kt := fun hh => absurd hh (by omega)) (kf := fun _ => ?_)
      refine r_aload_n hG (hl0 := rfl) (hd := d_Baler_press_11) (K := ?_)
      refine cVx hG w_Baler_28 d_Baler_press_12 (ct_bkilos) (by decide) (by decide) rc_9 rfl rfl ⟨(Nat.le_of_ble_eq_true rfl), (Nat.le_of_ble_eq_true rfl)⟩ ⟨(Nat.le_of_ble_eq_true rfl), (Nat.le_of_ble_eq_true rfl)⟩ (Nat.le_of_ble_eq_true rfl) ?_
      refine r_bipush hG (hd := d_Baler_press_15) (K := ?_)
      refine r_icmp_lt hG (hd := d_Baler_press_17) (kt := fun h => ?_) (kf := fun h => ?_)
      · rw [show prsN day (m + 1) i S = S from if_neg (by omega)] at K
        exact r_sb hG (K) trivial
      · rw [show prsN day (m + 1) i S = prsN day m (i + 1) (prs S i day) from if_pos (by omega)] at K
        have hb := bale_in h50.1 h51.1 h
        refine r_aload_n hG (hl0 := rfl) (hd := d_Baler_press_20) (K := ?_)
        refine g_Baler_11 hG (hd := d_Baler_press_21) (K := ?_)
        refine r_iload_n hG (hl0 := rfl) (hd := d_Baler_press_24) (K := ?_)
        first | refine a_1 hG (hd := d_Baler_press_25) (hz := rfl) (hj := by omega) (hi := by omega) (K := ?_) | refine a_2 hG (hd := d_Baler_press_25) (hz := rfl) (hj := by omega) (hi := by omega) (K := ?_) | refine a_10 hG (hd := d_Baler_press_25) (hz := rfl) (hj := by omega) (hi := by omega) (K := ?_) | refine r_aald22 hG (hd := d_Baler_press_25) (hz := rfl) (hj := by omega) (hi := by omega) (K := ?_)
        refine r_astore_n hG (hd := d_Baler_press_26) (K := ?_)
        refine r_aload_n hG (hl0 := rfl) (hd := d_Baler_press_27) (K := ?_)
        refine r_aload_n hG (hl0 := rfl) (hd := d_Baler_press_28) (K := ?_)
        refine g_Baler_22 hG (hd := d_Baler_press_29) (K := ?_)
        refine r_bipush hG (hd := d_Baler_press_32) (K := ?_)
        refine r_imul hG (hd := d_Baler_press_34) (K := ?_)
        refine r_aload_n hG (hl0 := rfl) (hd := d_Baler_press_35) (K := ?_)
        refine cVx hG w_Baler_28 d_Baler_press_36 (ct_bkilos) (by decide) (by decide) rc_9 rfl rfl ⟨(Nat.le_of_ble_eq_true rfl), (Nat.le_of_ble_eq_true rfl)⟩ ⟨(Nat.le_of_ble_eq_true rfl), (Nat.le_of_ble_eq_true rfl)⟩ (Nat.le_of_ble_eq_true rfl) ?_
        refine r_idiv hG (hr0 := by first | omega | (simp [sU]; omega)) (hd := d_Baler_press_39) (K := ?_)
        refine p_Baler_32 hG (hi := by omega) (hd := d_Baler_press_40) (K := ?_)
        refine r_aload_n hG (hl0 := rfl) (hd := d_Baler_press_43) (K := ?_)
        refine r_bipush hG (hd := d_Baler_press_44) (K := ?_)
        refine r_aload_n hG (hl0 := rfl) (hd := d_Baler_press_46) (K := ?_)
        refine g_Baler_32 hG (hi := by omega) (hd := d_Baler_press_47) (K := ?_)
        first | refine r_isub hG (hd := d_Baler_press_50) (K := ?_) | refine r_isubr hG (hd := d_Baler_press_50) (K := ?_)
        refine p_Baler_33 hG (hi := by omega) (hd := d_Baler_press_51) (K := ?_)
        refine r_aload_n hG (hl0 := rfl) (hd := d_Baler_press_54) (K := ?_)
        refine r_iload_n hG (hl0 := rfl) (hd := d_Baler_press_55) (K := ?_)
        refine p_Baler_34 hG (hi := by omega) (hd := d_Baler_press_56) (K := ?_)
        refine r_aload_n hG (hl0 := rfl) (hd := d_Baler_press_59) (K := ?_)
        refine r_dup hG (hd := d_Baler_press_60) (K := ?_)
        refine g_Baler_22 hG (hd := d_Baler_press_61) (K := ?_)
        refine r_aload_n hG (hl0 := rfl) (hd := d_Baler_press_64) (K := ?_)
        refine g_Baler_32 hG (hi := by omega) (hd := d_Baler_press_65) (K := ?_)
        first | refine r_isub hG (hd := d_Baler_press_68) (K := ?_) | refine r_isubr hG (hd := d_Baler_press_68) (K := ?_)
        refine p_Baler_22 hG (hd := d_Baler_press_69) (K := ?_)
        refine r_aload_n hG (hl0 := rfl) (hd := d_Baler_press_72) (K := ?_)
        refine r_dup hG (hd := d_Baler_press_73) (K := ?_)
        refine g_Baler_18 hG (hd := d_Baler_press_74) (K := ?_)
        refine r_aload_n hG (hl0 := rfl) (hd := d_Baler_press_77) (K := ?_)
        refine g_Baler_33 hG (hi := by omega) (hd := d_Baler_press_78) (K := ?_)
        first | refine r_isub hG (hd := d_Baler_press_81) (K := ?_) | refine r_isubr hG (hd := d_Baler_press_81) (K := ?_)
        refine p_Baler_18 hG (hd := d_Baler_press_82) (K := ?_)
        refine r_aload_n hG (hl0 := rfl) (hd := d_Baler_press_85) (K := ?_)
        refine r_dup hG (hd := d_Baler_press_86) (K := ?_)
        refine g_Baler_25 hG (hd := d_Baler_press_87) (K := ?_)
        refine r_iconst hG (hd := d_Baler_press_90) (K := ?_)
        first | refine r_iadd hG (hd := d_Baler_press_91) (K := ?_) | refine r_iaddr hG (hd := d_Baler_press_91) (K := ?_)
        refine p_Baler_25 hG (hd := d_Baler_press_92) (K := ?_)
        refine r_iinc hG (hl0 := rfl) (hd := d_Baler_press_95) (K := ?_)
        refine r_goto hG (hd := d_Baler_press_98) (K := ?_)
        have q := ih (i + 1) (by omega) (prs S i day) (by rw [prs_52, h52]; rfl) (by rw [prs_50]; omega) (by rw [prs_51]; omega) K
        exact r_sb hG (q) ⟨rfl, rfl, rfl, trivial⟩
  exact r_sb hG (loop (20 - n) n (by omega) S hn hc hd (by first | exact r_vret hG d_Baler_press_101 ⟨Nat.le_of_ble_eq_true rfl, Nat.le_of_ble_eq_true rfl⟩ ⟨rfl, rfl⟩)) ⟨rfl, rfl, rfl, trivial⟩
/-- a bin in order -/
def okT (S : St) (t : Nat) : Prop := (0 ≤ S 10 t 0 ∧ S 10 t 0 ≤ 30) ∧ (0 ≤ S 11 t 0 ∧ S 11 t 0 ≤ 4) ∧ ∀ j, j < 3 → (0 ≤ S 15 t j ∧ S 15 t j ≤ 9) ∧ 0 ≤ S 16 t j ∧ 0 ≤ S 17 t j ∧ S 16 t j + S 17 t j ≤ 60
def foulOf (S : St) (t j : Nat) : Int := if j = 0 then 0 else S 15 t j * S 11 t 0 / 10
theorem foul_in {S : St} {t j : Nat} (hj : j < 3) (h : okT S t) : 0 ≤ foulOf S t j ∧ foulOf S t j ≤ S 15 t j ∧ S 15 t j ≤ 9 := by
  obtain ⟨-, h1, h2⟩ := h
  have h3 := (h2 j hj).1
  have h4 := mul_bound h3 h1
  have h5 : S 15 t j * S 11 t 0 ≤ S 15 t j * 4 := Int.mul_le_mul_of_nonneg_left h1.2 h3.1
  unfold foulOf
  split <;> omega
/-- what comes of one stream in a day -/
def thrK (S : St) (t j : Nat) : St :=
  let S1 := sU S 16 t j (S 16 t j + min (S 15 t j - foulOf S t j) (60 - (S 16 t j + S 17 t j)))
  let S2 := sU S1 17 t j (S1 17 t j + min (foulOf S t j) (60 - (S1 16 t j + S1 17 t j)))
  sU S2 12 t 0 (S2 12 t 0 + (S 15 t j - foulOf S t j - min (S 15 t j - foulOf S t j) (60 - (S 16 t j + S 17 t j)) + foulOf S t j - min (foulOf S t j) (60 - (S1 16 t j + S1 17 t j))))
def thr (S : St) (t : Nat) : St := thrK (thrK (thrK S t 0) t 1) t 2
theorem thrK_16 (S : St) (t j t' j' : Nat) : thrK S t j 16 t' j' = if t' = t ∧ j' = j then S 16 t j + min (S 15 t j - foulOf S t j) (60 - (S 16 t j + S 17 t j)) else S 16 t' j' := by
  simp only [thrK]; simp [sU]
theorem thrK_17 (S : St) (t j t' j' : Nat) : thrK S t j 17 t' j' = if t' = t ∧ j' = j then S 17 t j + min (foulOf S t j) (60 - (S 16 t j + min (S 15 t j - foulOf S t j) (60 - (S 16 t j + S 17 t j)) + S 17 t j)) else S 17 t' j' := by
  simp only [thrK]; simp [sU]
theorem thrK_12 (S : St) (t j t' : Nat) : thrK S t j 12 t' 0 = if t' = t then S 12 t 0 + (S 15 t j - foulOf S t j - min (S 15 t j - foulOf S t j) (60 - (S 16 t j + S 17 t j)) + foulOf S t j - min (foulOf S t j) (60 - (S 16 t j + min (S 15 t j - foulOf S t j) (60 - (S 16 t j + S 17 t j)) + S 17 t j))) else S 12 t' 0 := by
  simp only [thrK]; simp [sU]
theorem thrK_of (S : St) (t j : Nat) {f : Nat} (h : f ≠ 16 ∧ f ≠ 17 ∧ f ≠ 12) : thrK S t j f = S f := by
  funext i q
  simp only [thrK]
  rw [sU_nf h.2.2, sU_nf h.2.1, sU_nf h.1]
theorem thrK_ok {S : St} {t j t' : Nat} (hj : j < 3) (h : okT S t) (h' : okT S t') : okT (thrK S t j) t' := by
  have hf := foul_in hj h
  have hb := h.2.2 j hj
  refine ⟨?_, ?_, fun j' hj' => ?_⟩
  · rw [thrK_of S t j (by decide)]; exact h'.1
  · rw [thrK_of S t j (by decide)]; exact h'.2.1
  · have hb' := h'.2.2 j' hj'
    rw [thrK_16, thrK_17, thrK_of S t j (by decide)]
    split
    · next e => obtain ⟨rfl, rfl⟩ := e; omega
    · exact hb'
theorem ct_throwAway {Γ : Gm} {S : St} {t : Nat} (ht : t < 12) (h : okT S t) : CT Γ y_Street_throwAway b_Street_throwAway 6 ((none : Option FieldType)) (rmx 3 0 0) [rf Γ 15 t] S (dX none (thr S t)) := by
  refine CT.of (by first | exact plainFor_of_name (by rfl) | decide +kernel) (Nat.le_of_ble_eq_true rfl) ?_
  intro G hG
  show G (0, 0) 0 [(0, rf Γ 15 t)] [] _
  refine r_iconst hG (hd := d_Street_throwAway_0) (K := ?_)
  refine r_istore_n hG (hd := d_Street_throwAway_1) (K := ?_)
  have step : ∀ (j : Nat) (S : St), j < 3 → okT S t → G (0, 0) 2 [(0, rf Γ 15 t), (1, nt ((j + 1 : Nat) : Int))] [] (thrK S t j) → G (0, 0) 2 [(0, rf Γ 15 t), (1, nt j)] [] S := by
    intro j S hj h K
    have hf := foul_in hj h
    have hb := h.2.2 j hj
    have tail : G (0, 0) 29 [(1, nt j), (0, rf Γ 15 t)] [nt (foulOf S t j)] S := by
      refine r_istore_n hG (hd := d_Street_throwAway_29) (K := ?_)
      refine r_aload_n hG (hl0 := rfl) (hd := d_Street_throwAway_30) (K := ?_)
      refine g_Street_9 hG (hi := by omega) (hd := d_Street_throwAway_31) (K := ?_)
      refine r_iload_n hG (hl0 := rfl) (hd := d_Street_throwAway_34) (K := ?_)
      first | refine a_16 hG (hd := d_Street_throwAway_35) (hz := rfl) (hj := by omega) (hi := by omega) (K := ?_) | refine a_17 hG (hd := d_Street_throwAway_35) (hz := rfl) (hj := by omega) (hi := by omega) (K := ?_) | refine a_18 hG (hd := d_Street_throwAway_35) (hz := rfl) (hj := by omega) (hi := by omega) (K := ?_) | refine a_19 hG (hd := d_Street_throwAway_35) (hz := rfl) (hj := by omega) (hi := by omega) (K := ?_) | refine a_4 hG (hd := d_Street_throwAway_35) (hz := rfl) (hj := by omega) (hi := by omega) (K := ?_) | refine a_5 hG (hd := d_Street_throwAway_35) (hz := rfl) (hj := by omega) (hi := by omega) (K := ?_) | refine a_21 hG (hd := d_Street_throwAway_35) (hz := rfl) (hj := by omega) (hi := by omega) (K := ?_) | refine a_23 hG (hd := d_Street_throwAway_35) (hz := rfl) (hj := by omega) (hi := by omega) (K := ?_) | refine a_24 hG (hd := d_Street_throwAway_35) (hz := rfl) (hj := by omega) (hi := by omega) (K := ?_)
      refine r_iload_n hG (hl0 := rfl) (hd := d_Street_throwAway_36) (K := ?_)
      first | refine r_isub hG (hd := d_Street_throwAway_37) (K := ?_) | refine r_isubr hG (hd := d_Street_throwAway_37) (K := ?_)
      refine r_istore_n hG (hd := d_Street_throwAway_38) (K := ?_)
      refine r_iload_n hG (hl0 := rfl) (hd := d_Street_throwAway_39) (K := ?_)
      refine r_aload_n hG (hl0 := rfl) (hd := d_Street_throwAway_40) (K := ?_)
      refine r_iload_n hG (hl0 := rfl) (hd := d_Street_throwAway_41) (K := ?_)
      refine cVx hG w_Street_32 d_Street_throwAway_42 (ct_roomIn ht hj) (by decide) (by show _ < 12; omega) rc_15 rfl rfl ⟨(Nat.le_of_ble_eq_true rfl), (Nat.le_of_ble_eq_true rfl)⟩ ⟨(Nat.le_of_ble_eq_true rfl), (Nat.le_of_ble_eq_true rfl)⟩ (Nat.le_of_ble_eq_true rfl) ?_
      refine r_mmin hG w_Street_35 d_Street_throwAway_45 ⟨(Nat.le_of_ble_eq_true rfl), (Nat.le_of_ble_eq_true rfl)⟩ ⟨(Nat.le_of_ble_eq_true rfl), (Nat.le_of_ble_eq_true rfl)⟩ (by first | omega | (simp [sU]; omega)) ?_
      refine r_istore hG (hd := d_Street_throwAway_48) (K := ?_)
      refine r_aload_n hG (hl0 := rfl) (hd := d_Street_throwAway_50) (K := ?_)
      refine g_Street_15 hG (hi := by omega) (hd := d_Street_throwAway_51) (K := ?_)
      refine r_iload_n hG (hl0 := rfl) (hd := d_Street_throwAway_54) (K := ?_)
      refine r_dup2 hG (hd := d_Street_throwAway_55) (K := ?_)
      first | refine a_16 hG (hd := d_Street_throwAway_56) (hz := rfl) (hj := by omega) (hi := by omega) (K := ?_) | refine a_17 hG (hd := d_Street_throwAway_56) (hz := rfl) (hj := by omega) (hi := by omega) (K := ?_) | refine a_18 hG (hd := d_Street_throwAway_56) (hz := rfl) (hj := by omega) (hi := by omega) (K := ?_) | refine a_19 hG (hd := d_Street_throwAway_56) (hz := rfl) (hj := by omega) (hi := by omega) (K := ?_) | refine a_4 hG (hd := d_Street_throwAway_56) (hz := rfl) (hj := by omega) (hi := by omega) (K := ?_) | refine a_5 hG (hd := d_Street_throwAway_56) (hz := rfl) (hj := by omega) (hi := by omega) (K := ?_) | refine a_21 hG (hd := d_Street_throwAway_56) (hz := rfl) (hj := by omega) (hi := by omega) (K := ?_) | refine a_23 hG (hd := d_Street_throwAway_56) (hz := rfl) (hj := by omega) (hi := by omega) (K := ?_) | refine a_24 hG (hd := d_Street_throwAway_56) (hz := rfl) (hj := by omega) (hi := by omega) (K := ?_)
      refine r_iload hG (hl0 := rfl) (hd := d_Street_throwAway_57) (K := ?_)
      first | refine r_iadd hG (hd := d_Street_throwAway_59) (K := ?_) | refine r_iaddr hG (hd := d_Street_throwAway_59) (K := ?_)
      first | refine s_16 hG (hd := d_Street_throwAway_60) (hz := rfl) (hj := by omega) (hi := by omega) (K := ?_) | refine s_17 hG (hd := d_Street_throwAway_60) (hz := rfl) (hj := by omega) (hi := by omega) (K := ?_) | refine s_18 hG (hd := d_Street_throwAway_60) (hz := rfl) (hj := by omega) (hi := by omega) (K := ?_) | refine s_19 hG (hd := d_Street_throwAway_60) (hz := rfl) (hj := by omega) (hi := by omega) (K := ?_) | refine s_4 hG (hd := d_Street_throwAway_60) (hz := rfl) (hj := by omega) (hi := by omega) (K := ?_) | refine s_5 hG (hd := d_Street_throwAway_60) (hz := rfl) (hj := by omega) (hi := by omega) (K := ?_) | refine s_21 hG (hd := d_Street_throwAway_60) (hz := rfl) (hj := by omega) (hi := by omega) (K := ?_) | refine s_23 hG (hd := d_Street_throwAway_60) (hz := rfl) (hj := by omega) (hi := by omega) (K := ?_) | refine s_24 hG (hd := d_Street_throwAway_60) (hz := rfl) (hj := by omega) (hi := by omega) (K := ?_)
      refine r_iload_n hG (hl0 := rfl) (hd := d_Street_throwAway_61) (K := ?_)
      refine r_aload_n hG (hl0 := rfl) (hd := d_Street_throwAway_62) (K := ?_)
      refine r_iload_n hG (hl0 := rfl) (hd := d_Street_throwAway_63) (K := ?_)
      refine cVx hG w_Street_32 d_Street_throwAway_64 (ct_roomIn ht hj) (by decide) (by show _ < 12; omega) rc_15 rfl rfl ⟨(Nat.le_of_ble_eq_true rfl), (Nat.le_of_ble_eq_true rfl)⟩ ⟨(Nat.le_of_ble_eq_true rfl), (Nat.le_of_ble_eq_true rfl)⟩ (Nat.le_of_ble_eq_true rfl) ?_
      refine r_mmin hG w_Street_35 d_Street_throwAway_67 ⟨(Nat.le_of_ble_eq_true rfl), (Nat.le_of_ble_eq_true rfl)⟩ ⟨(Nat.le_of_ble_eq_true rfl), (Nat.le_of_ble_eq_true rfl)⟩ (by first | omega | (simp [sU]; omega)) ?_
      refine r_istore hG (hd := d_Street_throwAway_70) (K := ?_)
      refine r_aload_n hG (hl0 := rfl) (hd := d_Street_throwAway_72) (K := ?_)
      refine g_Street_18 hG (hi := by omega) (hd := d_Street_throwAway_73) (K := ?_)
      refine r_iload_n hG (hl0 := rfl) (hd := d_Street_throwAway_76) (K := ?_)
      refine r_dup2 hG (hd := d_Street_throwAway_77) (K := ?_)
      first | refine a_16 hG (hd := d_Street_throwAway_78) (hz := rfl) (hj := by omega) (hi := by omega) (K := ?_) | refine a_17 hG (hd := d_Street_throwAway_78) (hz := rfl) (hj := by omega) (hi := by omega) (K := ?_) | refine a_18 hG (hd := d_Street_throwAway_78) (hz := rfl) (hj := by omega) (hi := by omega) (K := ?_) | refine a_19 hG (hd := d_Street_throwAway_78) (hz := rfl) (hj := by omega) (hi := by omega) (K := ?_) | refine a_4 hG (hd := d_Street_throwAway_78) (hz := rfl) (hj := by omega) (hi := by omega) (K := ?_) | refine a_5 hG (hd := d_Street_throwAway_78) (hz := rfl) (hj := by omega) (hi := by omega) (K := ?_) | refine a_21 hG (hd := d_Street_throwAway_78) (hz := rfl) (hj := by omega) (hi := by omega) (K := ?_) | refine a_23 hG (hd := d_Street_throwAway_78) (hz := rfl) (hj := by omega) (hi := by omega) (K := ?_) | refine a_24 hG (hd := d_Street_throwAway_78) (hz := rfl) (hj := by omega) (hi := by omega) (K := ?_)
      refine r_iload hG (hl0 := rfl) (hd := d_Street_throwAway_79) (K := ?_)
      first | refine r_iadd hG (hd := d_Street_throwAway_81) (K := ?_) | refine r_iaddr hG (hd := d_Street_throwAway_81) (K := ?_)
      first | refine s_16 hG (hd := d_Street_throwAway_82) (hz := rfl) (hj := by omega) (hi := by omega) (K := ?_) | refine s_17 hG (hd := d_Street_throwAway_82) (hz := rfl) (hj := by omega) (hi := by omega) (K := ?_) | refine s_18 hG (hd := d_Street_throwAway_82) (hz := rfl) (hj := by omega) (hi := by omega) (K := ?_) | refine s_19 hG (hd := d_Street_throwAway_82) (hz := rfl) (hj := by omega) (hi := by omega) (K := ?_) | refine s_4 hG (hd := d_Street_throwAway_82) (hz := rfl) (hj := by omega) (hi := by omega) (K := ?_) | refine s_5 hG (hd := d_Street_throwAway_82) (hz := rfl) (hj := by omega) (hi := by omega) (K := ?_) | refine s_21 hG (hd := d_Street_throwAway_82) (hz := rfl) (hj := by omega) (hi := by omega) (K := ?_) | refine s_23 hG (hd := d_Street_throwAway_82) (hz := rfl) (hj := by omega) (hi := by omega) (K := ?_) | refine s_24 hG (hd := d_Street_throwAway_82) (hz := rfl) (hj := by omega) (hi := by omega) (K := ?_)
      refine r_aload_n hG (hl0 := rfl) (hd := d_Street_throwAway_83) (K := ?_)
      refine r_dup hG (hd := d_Street_throwAway_84) (K := ?_)
      refine g_Street_41 hG (hi := by omega) (hd := d_Street_throwAway_85) (K := ?_)
      refine r_iload_n hG (hl0 := rfl) (hd := d_Street_throwAway_88) (K := ?_)
      refine r_iload hG (hl0 := rfl) (hd := d_Street_throwAway_89) (K := ?_)
      first | refine r_isub hG (hd := d_Street_throwAway_91) (K := ?_) | refine r_isubr hG (hd := d_Street_throwAway_91) (K := ?_)
      refine r_iload_n hG (hl0 := rfl) (hd := d_Street_throwAway_92) (K := ?_)
      first | refine r_iadd hG (hd := d_Street_throwAway_93) (K := ?_) | refine r_iaddr hG (hd := d_Street_throwAway_93) (K := ?_)
      refine r_iload hG (hl0 := rfl) (hd := d_Street_throwAway_94) (K := ?_)
      first | refine r_isub hG (hd := d_Street_throwAway_96) (K := ?_) | refine r_isubr hG (hd := d_Street_throwAway_96) (K := ?_)
      first | refine r_iadd hG (hd := d_Street_throwAway_97) (K := ?_) | refine r_iaddr hG (hd := d_Street_throwAway_97) (K := ?_)
      refine p_Street_41 hG (hi := by omega) (hd := d_Street_throwAway_98) (K := ?_)
      refine r_iinc hG (hl0 := rfl) (hd := d_Street_throwAway_101) (K := ?_)
      refine r_goto hG (hd := d_Street_throwAway_104) (K := ?_)
      exact r_sb hG (K) ⟨rfl, rfl, trivial⟩
    refine r_iload_n hG (hl0 := rfl) (hd := d_Street_throwAway_2) (K := ?_)
    refine r_iconst hG (hd := d_Street_throwAway_3) (K := ?_)
    refine r_icmp_ge hG (hd := d_Street_throwAway_4) (kt := fun hh => absurd hh (by omega)) (kf := fun _ => ?_)
    refine r_iload_n hG (hl0 := rfl) (hd := d_Street_throwAway_7) (K := ?_)
    refine r_if_ne hG (hd := d_Street_throwAway_8) (kt := fun h0 => ?_) (kf := fun h0 => ?_)
    · have e : foulOf S t j = S 15 t j * S 11 t 0 / 10 := if_neg (by omega)
      have h4 := mul_bound hb.1 h.2.1
      rw [e] at tail
      refine r_aload_n hG (hl0 := rfl) (hd := d_Street_throwAway_15) (K := ?_)
      refine g_Street_9 hG (hi := by omega) (hd := d_Street_throwAway_16) (K := ?_)
      refine r_iload_n hG (hl0 := rfl) (hd := d_Street_throwAway_19) (K := ?_)
      first | refine a_16 hG (hd := d_Street_throwAway_20) (hz := rfl) (hj := by omega) (hi := by omega) (K := ?_) | refine a_17 hG (hd := d_Street_throwAway_20) (hz := rfl) (hj := by omega) (hi := by omega) (K := ?_) | refine a_18 hG (hd := d_Street_throwAway_20) (hz := rfl) (hj := by omega) (hi := by omega) (K := ?_) | refine a_19 hG (hd := d_Street_throwAway_20) (hz := rfl) (hj := by omega) (hi := by omega) (K := ?_) | refine a_4 hG (hd := d_Street_throwAway_20) (hz := rfl) (hj := by omega) (hi := by omega) (K := ?_) | refine a_5 hG (hd := d_Street_throwAway_20) (hz := rfl) (hj := by omega) (hi := by omega) (K := ?_) | refine a_21 hG (hd := d_Street_throwAway_20) (hz := rfl) (hj := by omega) (hi := by omega) (K := ?_) | refine a_23 hG (hd := d_Street_throwAway_20) (hz := rfl) (hj := by omega) (hi := by omega) (K := ?_) | refine a_24 hG (hd := d_Street_throwAway_20) (hz := rfl) (hj := by omega) (hi := by omega) (K := ?_)
      refine r_aload_n hG (hl0 := rfl) (hd := d_Street_throwAway_21) (K := ?_)
      refine g_Street_28 hG (hi := by omega) (hd := d_Street_throwAway_22) (K := ?_)
      refine r_imul hG (hd := d_Street_throwAway_25) (K := ?_)
      refine r_bipush hG (hd := d_Street_throwAway_26) (K := ?_)
      refine r_idiv hG (hr0 := by first | omega | (simp [sU]; omega)) (hd := d_Street_throwAway_28) (K := ?_)
      exact r_sb hG (tail) ⟨rfl, rfl, trivial⟩
    · have e : foulOf S t j = 0 := if_pos (by omega)
      rw [e] at tail
      refine r_iconst hG (hd := d_Street_throwAway_11) (K := ?_)
      refine r_goto hG (hd := d_Street_throwAway_12) (K := ?_)
      exact r_sb hG (tail) ⟨rfl, rfl, trivial⟩
  refine r_sb hG (step 0 S (by decide) h (step 1 _ (by decide) (thrK_ok (by decide) h h) (step 2 _ (by decide) (thrK_ok (by decide) (thrK_ok (by decide) h h) (thrK_ok (by decide) h h)) ?_))) ⟨rfl, rfl, trivial⟩
  refine r_iload_n hG (hl0 := rfl) (hd := d_Street_throwAway_2) (K := ?_)
  refine r_iconst hG (hd := d_Street_throwAway_3) (K := ?_)
  refine r_icmp_ge hG (hd := d_Street_throwAway_4) (kt := fun _ => ?_) (kf := fun hh => absurd hh (by omega))
  refine r_vret hG d_Street_throwAway_107 ⟨(Nat.le_of_ble_eq_true rfl), (Nat.le_of_ble_eq_true rfl)⟩ ?_
  exact ⟨rfl, rfl⟩
theorem ct_owes {Γ : Gm} {S : St} {t : Nat} (ht : t < 12) : CT Γ y_Street_owes b_Street_owes 1 ((some FieldType.int)) (rmx 1 0 0) [rf Γ 15 t] S (dX (some (nt (3 * S 18 t 0 + S 18 t 2 - 2 * S 13 t 0))) S) := by
  refine CT.of (by first | exact plainFor_of_name (by rfl) | decide +kernel) (Nat.le_of_ble_eq_true rfl) ?_
  intro G hG
  show G (0, 0) 0 [(0, rf Γ 15 t)] [] _
  refine r_iconst hG (hd := d_Street_owes_0) (K := ?_)
  refine r_aload_n hG (hl0 := rfl) (hd := d_Street_owes_1) (K := ?_)
  refine g_Street_21 hG (hi := by omega) (hd := d_Street_owes_2) (K := ?_)
  refine r_iconst hG (hd := d_Street_owes_5) (K := ?_)
  first | refine a_16 hG (j := 0) (hd := d_Street_owes_6) (hz := rfl) (hj := by omega) (hi := by omega) (K := ?_) | refine a_17 hG (j := 0) (hd := d_Street_owes_6) (hz := rfl) (hj := by omega) (hi := by omega) (K := ?_) | refine a_18 hG (j := 0) (hd := d_Street_owes_6) (hz := rfl) (hj := by omega) (hi := by omega) (K := ?_) | refine a_19 hG (j := 0) (hd := d_Street_owes_6) (hz := rfl) (hj := by omega) (hi := by omega) (K := ?_) | refine a_4 hG (j := 0) (hd := d_Street_owes_6) (hz := rfl) (hj := by omega) (hi := by omega) (K := ?_) | refine a_5 hG (j := 0) (hd := d_Street_owes_6) (hz := rfl) (hj := by omega) (hi := by omega) (K := ?_) | refine a_21 hG (j := 0) (hd := d_Street_owes_6) (hz := rfl) (hj := by omega) (hi := by omega) (K := ?_) | refine a_23 hG (j := 0) (hd := d_Street_owes_6) (hz := rfl) (hj := by omega) (hi := by omega) (K := ?_) | refine a_24 hG (j := 0) (hd := d_Street_owes_6) (hz := rfl) (hj := by omega) (hi := by omega) (K := ?_)
  refine r_imul hG (hd := d_Street_owes_7) (K := ?_)
  refine r_aload_n hG (hl0 := rfl) (hd := d_Street_owes_8) (K := ?_)
  refine g_Street_21 hG (hi := by omega) (hd := d_Street_owes_9) (K := ?_)
  refine r_iconst hG (hd := d_Street_owes_12) (K := ?_)
  first | refine a_16 hG (j := 2) (hd := d_Street_owes_13) (hz := rfl) (hj := by omega) (hi := by omega) (K := ?_) | refine a_17 hG (j := 2) (hd := d_Street_owes_13) (hz := rfl) (hj := by omega) (hi := by omega) (K := ?_) | refine a_18 hG (j := 2) (hd := d_Street_owes_13) (hz := rfl) (hj := by omega) (hi := by omega) (K := ?_) | refine a_19 hG (j := 2) (hd := d_Street_owes_13) (hz := rfl) (hj := by omega) (hi := by omega) (K := ?_) | refine a_4 hG (j := 2) (hd := d_Street_owes_13) (hz := rfl) (hj := by omega) (hi := by omega) (K := ?_) | refine a_5 hG (j := 2) (hd := d_Street_owes_13) (hz := rfl) (hj := by omega) (hi := by omega) (K := ?_) | refine a_21 hG (j := 2) (hd := d_Street_owes_13) (hz := rfl) (hj := by omega) (hi := by omega) (K := ?_) | refine a_23 hG (j := 2) (hd := d_Street_owes_13) (hz := rfl) (hj := by omega) (hi := by omega) (K := ?_) | refine a_24 hG (j := 2) (hd := d_Street_owes_13) (hz := rfl) (hj := by omega) (hi := by omega) (K := ?_)
  first | refine r_iadd hG (hd := d_Street_owes_14) (K := ?_) | refine r_iaddr hG (hd := d_Street_owes_14) (K := ?_)
  refine r_iconst hG (hd := d_Street_owes_15) (K := ?_)
  refine r_aload_n hG (hl0 := rfl) (hd := d_Street_owes_16) (K := ?_)
  refine g_Street_44 hG (hi := by omega) (hd := d_Street_owes_17) (K := ?_)
  refine r_imul hG (hd := d_Street_owes_20) (K := ?_)
  first | refine r_isub hG (hd := d_Street_owes_21) (K := ?_) | refine r_isubr hG (hd := d_Street_owes_21) (K := ?_)
  refine r_iret hG d_Street_owes_22 ⟨(Nat.le_of_ble_eq_true rfl), (Nat.le_of_ble_eq_true rfl)⟩ ?_
  exact ⟨rfl, rfl⟩
def cpyK (S : St) (t u j : Nat) : St :=
  let S1 := sU S 15 t j (S 15 u j)
  let S2 := sU S1 16 t j (S1 16 u j)
  sU S2 17 t j (S2 17 u j)
/-- t becomes as u is -/
def cpy (S : St) (t u : Nat) : St :=
  let S1 := sU S 10 t 0 (S 10 u 0)
  let S2 := sU S1 11 t 0 (S1 11 u 0)
  let S3 := sU S2 12 t 0 (S2 12 u 0)
  cpyK (cpyK (cpyK S3 t u 0) t u 1) t u 2
theorem ct_copyBins {Γ : Gm} {S : St} {t u : Nat} (ht : t < 12) (hu : u < 12) : CT Γ y_Street_copyBins b_Street_copyBins 3 ((none : Option FieldType)) (rmx 1 0 0) [rf Γ 15 t, rf Γ 15 u] S (dX none (cpy S t u)) := by
  refine CT.of (by first | exact plainFor_of_name (by rfl) | decide +kernel) (Nat.le_of_ble_eq_true rfl) ?_
  intro G hG
  show G (0, 0) 0 [(0, rf Γ 15 t), (1, rf Γ 15 u)] [] _
  refine r_aload_n hG (hl0 := rfl) (hd := d_Street_copyBins_0) (K := ?_)
  refine r_aload_n hG (hl0 := rfl) (hd := d_Street_copyBins_1) (K := ?_)
  refine g_Street_47 hG (hi := by omega) (hd := d_Street_copyBins_2) (K := ?_)
  refine p_Street_47 hG (hi := by omega) (hd := d_Street_copyBins_5) (K := ?_)
  refine r_aload_n hG (hl0 := rfl) (hd := d_Street_copyBins_8) (K := ?_)
  refine r_aload_n hG (hl0 := rfl) (hd := d_Street_copyBins_9) (K := ?_)
  refine g_Street_28 hG (hi := by omega) (hd := d_Street_copyBins_10) (K := ?_)
  refine p_Street_28 hG (hi := by omega) (hd := d_Street_copyBins_13) (K := ?_)
  refine r_aload_n hG (hl0 := rfl) (hd := d_Street_copyBins_16) (K := ?_)
  refine r_aload_n hG (hl0 := rfl) (hd := d_Street_copyBins_17) (K := ?_)
  refine g_Street_41 hG (hi := by omega) (hd := d_Street_copyBins_18) (K := ?_)
  refine p_Street_41 hG (hi := by omega) (hd := d_Street_copyBins_21) (K := ?_)
  refine r_iconst hG (hd := d_Street_copyBins_24) (K := ?_)
  refine r_istore_n hG (hd := d_Street_copyBins_25) (K := ?_)
  have step : ∀ (j : Nat) (S : St), j < 3 → G (0, 0) 26 [(0, rf Γ 15 t), (1, rf Γ 15 u), (2, nt ((j + 1 : Nat) : Int))] [] (cpyK S t u j) → G (0, 0) 26 [(0, rf Γ 15 t), (1, rf Γ 15 u), (2, nt j)] [] S := by
    intro j S hj K
    refine r_iload_n hG (hl0 := rfl) (hd := d_Street_copyBins_26) (K := ?_)
    refine r_iconst hG (hd := d_Street_copyBins_27) (K := ?_)
    refine r_icmp_ge hG (hd := d_Street_copyBins_28) (kt := fun hh => absurd hh (by omega)) (kf := fun _ => ?_)
    refine r_aload_n hG (hl0 := rfl) (hd := d_Street_copyBins_31) (K := ?_)
    refine g_Street_9 hG (hi := by omega) (hd := d_Street_copyBins_32) (K := ?_)
    refine r_iload_n hG (hl0 := rfl) (hd := d_Street_copyBins_35) (K := ?_)
    refine r_aload_n hG (hl0 := rfl) (hd := d_Street_copyBins_36) (K := ?_)
    refine g_Street_9 hG (hi := by omega) (hd := d_Street_copyBins_37) (K := ?_)
    refine r_iload_n hG (hl0 := rfl) (hd := d_Street_copyBins_40) (K := ?_)
    first | refine a_16 hG (hd := d_Street_copyBins_41) (hz := rfl) (hj := by omega) (hi := by omega) (K := ?_) | refine a_17 hG (hd := d_Street_copyBins_41) (hz := rfl) (hj := by omega) (hi := by omega) (K := ?_) | refine a_18 hG (hd := d_Street_copyBins_41) (hz := rfl) (hj := by omega) (hi := by omega) (K := ?_) | refine a_19 hG (hd := d_Street_copyBins_41) (hz := rfl) (hj := by omega) (hi := by omega) (K := ?_) | refine a_4 hG (hd := d_Street_copyBins_41) (hz := rfl) (hj := by omega) (hi := by omega) (K := ?_) | refine a_5 hG (hd := d_Street_copyBins_41) (hz := rfl) (hj := by omega) (hi := by omega) (K := ?_) | refine a_21 hG (hd := d_Street_copyBins_41) (hz := rfl) (hj := by omega) (hi := by omega) (K := ?_) | refine a_23 hG (hd := d_Street_copyBins_41) (hz := rfl) (hj := by omega) (hi := by omega) (K := ?_) | refine a_24 hG (hd := d_Street_copyBins_41) (hz := rfl) (hj := by omega) (hi := by omega) (K := ?_)
    first | refine s_16 hG (hd := d_Street_copyBins_42) (hz := rfl) (hj := by omega) (hi := by omega) (K := ?_) | refine s_17 hG (hd := d_Street_copyBins_42) (hz := rfl) (hj := by omega) (hi := by omega) (K := ?_) | refine s_18 hG (hd := d_Street_copyBins_42) (hz := rfl) (hj := by omega) (hi := by omega) (K := ?_) | refine s_19 hG (hd := d_Street_copyBins_42) (hz := rfl) (hj := by omega) (hi := by omega) (K := ?_) | refine s_4 hG (hd := d_Street_copyBins_42) (hz := rfl) (hj := by omega) (hi := by omega) (K := ?_) | refine s_5 hG (hd := d_Street_copyBins_42) (hz := rfl) (hj := by omega) (hi := by omega) (K := ?_) | refine s_21 hG (hd := d_Street_copyBins_42) (hz := rfl) (hj := by omega) (hi := by omega) (K := ?_) | refine s_23 hG (hd := d_Street_copyBins_42) (hz := rfl) (hj := by omega) (hi := by omega) (K := ?_) | refine s_24 hG (hd := d_Street_copyBins_42) (hz := rfl) (hj := by omega) (hi := by omega) (K := ?_)
    refine r_aload_n hG (hl0 := rfl) (hd := d_Street_copyBins_43) (K := ?_)
    refine g_Street_15 hG (hi := by omega) (hd := d_Street_copyBins_44) (K := ?_)
    refine r_iload_n hG (hl0 := rfl) (hd := d_Street_copyBins_47) (K := ?_)
    refine r_aload_n hG (hl0 := rfl) (hd := d_Street_copyBins_48) (K := ?_)
    refine g_Street_15 hG (hi := by omega) (hd := d_Street_copyBins_49) (K := ?_)
    refine r_iload_n hG (hl0 := rfl) (hd := d_Street_copyBins_52) (K := ?_)
    first | refine a_16 hG (hd := d_Street_copyBins_53) (hz := rfl) (hj := by omega) (hi := by omega) (K := ?_) | refine a_17 hG (hd := d_Street_copyBins_53) (hz := rfl) (hj := by omega) (hi := by omega) (K := ?_) | refine a_18 hG (hd := d_Street_copyBins_53) (hz := rfl) (hj := by omega) (hi := by omega) (K := ?_) | refine a_19 hG (hd := d_Street_copyBins_53) (hz := rfl) (hj := by omega) (hi := by omega) (K := ?_) | refine a_4 hG (hd := d_Street_copyBins_53) (hz := rfl) (hj := by omega) (hi := by omega) (K := ?_) | refine a_5 hG (hd := d_Street_copyBins_53) (hz := rfl) (hj := by omega) (hi := by omega) (K := ?_) | refine a_21 hG (hd := d_Street_copyBins_53) (hz := rfl) (hj := by omega) (hi := by omega) (K := ?_) | refine a_23 hG (hd := d_Street_copyBins_53) (hz := rfl) (hj := by omega) (hi := by omega) (K := ?_) | refine a_24 hG (hd := d_Street_copyBins_53) (hz := rfl) (hj := by omega) (hi := by omega) (K := ?_)
    first | refine s_16 hG (hd := d_Street_copyBins_54) (hz := rfl) (hj := by omega) (hi := by omega) (K := ?_) | refine s_17 hG (hd := d_Street_copyBins_54) (hz := rfl) (hj := by omega) (hi := by omega) (K := ?_) | refine s_18 hG (hd := d_Street_copyBins_54) (hz := rfl) (hj := by omega) (hi := by omega) (K := ?_) | refine s_19 hG (hd := d_Street_copyBins_54) (hz := rfl) (hj := by omega) (hi := by omega) (K := ?_) | refine s_4 hG (hd := d_Street_copyBins_54) (hz := rfl) (hj := by omega) (hi := by omega) (K := ?_) | refine s_5 hG (hd := d_Street_copyBins_54) (hz := rfl) (hj := by omega) (hi := by omega) (K := ?_) | refine s_21 hG (hd := d_Street_copyBins_54) (hz := rfl) (hj := by omega) (hi := by omega) (K := ?_) | refine s_23 hG (hd := d_Street_copyBins_54) (hz := rfl) (hj := by omega) (hi := by omega) (K := ?_) | refine s_24 hG (hd := d_Street_copyBins_54) (hz := rfl) (hj := by omega) (hi := by omega) (K := ?_)
    refine r_aload_n hG (hl0 := rfl) (hd := d_Street_copyBins_55) (K := ?_)
    refine g_Street_18 hG (hi := by omega) (hd := d_Street_copyBins_56) (K := ?_)
    refine r_iload_n hG (hl0 := rfl) (hd := d_Street_copyBins_59) (K := ?_)
    refine r_aload_n hG (hl0 := rfl) (hd := d_Street_copyBins_60) (K := ?_)
    refine g_Street_18 hG (hi := by omega) (hd := d_Street_copyBins_61) (K := ?_)
    refine r_iload_n hG (hl0 := rfl) (hd := d_Street_copyBins_64) (K := ?_)
    first | refine a_16 hG (hd := d_Street_copyBins_65) (hz := rfl) (hj := by omega) (hi := by omega) (K := ?_) | refine a_17 hG (hd := d_Street_copyBins_65) (hz := rfl) (hj := by omega) (hi := by omega) (K := ?_) | refine a_18 hG (hd := d_Street_copyBins_65) (hz := rfl) (hj := by omega) (hi := by omega) (K := ?_) | refine a_19 hG (hd := d_Street_copyBins_65) (hz := rfl) (hj := by omega) (hi := by omega) (K := ?_) | refine a_4 hG (hd := d_Street_copyBins_65) (hz := rfl) (hj := by omega) (hi := by omega) (K := ?_) | refine a_5 hG (hd := d_Street_copyBins_65) (hz := rfl) (hj := by omega) (hi := by omega) (K := ?_) | refine a_21 hG (hd := d_Street_copyBins_65) (hz := rfl) (hj := by omega) (hi := by omega) (K := ?_) | refine a_23 hG (hd := d_Street_copyBins_65) (hz := rfl) (hj := by omega) (hi := by omega) (K := ?_) | refine a_24 hG (hd := d_Street_copyBins_65) (hz := rfl) (hj := by omega) (hi := by omega) (K := ?_)
    first | refine s_16 hG (hd := d_Street_copyBins_66) (hz := rfl) (hj := by omega) (hi := by omega) (K := ?_) | refine s_17 hG (hd := d_Street_copyBins_66) (hz := rfl) (hj := by omega) (hi := by omega) (K := ?_) | refine s_18 hG (hd := d_Street_copyBins_66) (hz := rfl) (hj := by omega) (hi := by omega) (K := ?_) | refine s_19 hG (hd := d_Street_copyBins_66) (hz := rfl) (hj := by omega) (hi := by omega) (K := ?_) | refine s_4 hG (hd := d_Street_copyBins_66) (hz := rfl) (hj := by omega) (hi := by omega) (K := ?_) | refine s_5 hG (hd := d_Street_copyBins_66) (hz := rfl) (hj := by omega) (hi := by omega) (K := ?_) | refine s_21 hG (hd := d_Street_copyBins_66) (hz := rfl) (hj := by omega) (hi := by omega) (K := ?_) | refine s_23 hG (hd := d_Street_copyBins_66) (hz := rfl) (hj := by omega) (hi := by omega) (K := ?_) | refine s_24 hG (hd := d_Street_copyBins_66) (hz := rfl) (hj := by omega) (hi := by omega) (K := ?_)
    refine r_iinc hG (hl0 := rfl) (hd := d_Street_copyBins_67) (K := ?_)
    refine r_goto hG (hd := d_Street_copyBins_70) (K := ?_)
    exact r_sb hG (K) ⟨rfl, rfl, rfl, trivial⟩
  refine r_sb hG (step 0 _ (by decide) (step 1 _ (by decide) (step 2 _ (by decide) ?_))) ⟨rfl, rfl, rfl, trivial⟩
  refine r_iload_n hG (hl0 := rfl) (hd := d_Street_copyBins_26) (K := ?_)
  refine r_iconst hG (hd := d_Street_copyBins_27) (K := ?_)
  refine r_icmp_ge hG (hd := d_Street_copyBins_28) (kt := fun _ => ?_) (kf := fun hh => absurd hh (by omega))
  refine r_vret hG d_Street_copyBins_73 ⟨(Nat.le_of_ble_eq_true rfl), (Nat.le_of_ble_eq_true rfl)⟩ ?_
  exact ⟨rfl, rfl⟩
end
section
/-! LORRIES, TRIPS -/
/-- a lorry in order -/
def okL (S : St) (i : Nat) : Prop := (0 ≤ S 20 i 0 ∧ S 20 i 0 ≤ 120) ∧ (∀ c, c < 2 → ∃ j : Nat, j < 3 ∧ S 25 i c = (j : Int)) ∧ (∀ d, d < 7 → ∃ n : Nat, n ≤ 6 ∧ S 26 i d = (n : Int)) ∧ ∀ d, d < 7 → ∀ q, q < 6 → ∃ e : Nat, e < 6 ∧ S 27 (7 * i + d) q = (e : Int)
def hasE (S : St) (r : Nat) (e : Int) : Nat → Prop
  | 0 => False
  | k + 1 => hasE S r e k ∨ S 27 r k = e
theorem ct_comesTo_no {Γ : Gm} {S : St} {i d e n : Nat} (hi : i < 3) (hd : d < 7) (he : e < 6) (hn : n ≤ 6) (hl : S 26 i d = (n : Int)) (hr : ∀ q, q < 6 → ∃ e : Nat, e < 6 ∧ S 27 (7 * i + d) q = (e : Int)) (hno : ∀ q, q < n → S 27 (7 * i + d) q ≠ (e : Int)) : CT Γ y_Lorry_comesTo b_Lorry_comesTo 4 ((some FieldType.boolean)) (rmx 1 0 0) [rf Γ 20 i, nt d, nt e] S (dX (some (nt 0)) S) := by
  refine CT.of (by first | exact plainFor_of_name (by rfl) | decide +kernel) (Nat.le_of_ble_eq_true rfl) ?_
  intro G hG
  show G (0, 0) 0 [(0, rf Γ 20 i), (1, nt d), (2, nt e)] [] _
  refine r_iconst hG (hd := d_Lorry_comesTo_0) (K := ?_)
  refine r_istore_n hG (hd := d_Lorry_comesTo_1) (K := ?_)
  have loop : ∀ m q : Nat, q + m = n → G (0, 0) 2 [(0, rf Γ 20 i), (1, nt d), (2, nt e), (3, nt q)] [] S := by
    intro m
    induction m with
    | zero =>
      intro q hq
      refine r_iload_n hG (hl0 := rfl) (hd := d_Lorry_comesTo_2) (K := ?_)
      refine r_aload_n hG (hl0 := rfl) (hd := d_Lorry_comesTo_3) (K := ?_)
      refine g_Lorry_20 hG (hi := by omega) (hd := d_Lorry_comesTo_4) (K := ?_)
      refine r_iload_n hG (hl0 := rfl) (hd := d_Lorry_comesTo_7) (K := ?_)
      first | refine a_16 hG (hd := d_Lorry_comesTo_8) (hz := rfl) (hj := by omega) (hi := by omega) (K := ?_) | refine a_17 hG (hd := d_Lorry_comesTo_8) (hz := rfl) (hj := by omega) (hi := by omega) (K := ?_) | refine a_18 hG (hd := d_Lorry_comesTo_8) (hz := rfl) (hj := by omega) (hi := by omega) (K := ?_) | refine a_19 hG (hd := d_Lorry_comesTo_8) (hz := rfl) (hj := by omega) (hi := by omega) (K := ?_) | refine a_4 hG (hd := d_Lorry_comesTo_8) (hz := rfl) (hj := by omega) (hi := by omega) (K := ?_) | refine a_5 hG (hd := d_Lorry_comesTo_8) (hz := rfl) (hj := by omega) (hi := by omega) (K := ?_) | refine a_21 hG (hd := d_Lorry_comesTo_8) (hz := rfl) (hj := by omega) (hi := by omega) (K := ?_) | refine a_23 hG (hd := d_Lorry_comesTo_8) (hz := rfl) (hj := by omega) (hi := by omega) (K := ?_) | refine a_24 hG (hd := d_Lorry_comesTo_8) (hz := rfl) (hj := by omega) (hi := by omega) (K := ?_)
      refine r_icmp_ge hG (hd := d_Lorry_comesTo_9) (kt := fun _ => ?_) (kf := fun hh => absurd hh (by omega))
      refine r_iconst hG (hd := d_Lorry_comesTo_32) (K := ?_)
      refine r_zret hG d_Lorry_comesTo_33 ⟨(Nat.le_of_ble_eq_true rfl), (Nat.le_of_ble_eq_true rfl)⟩ (by first | exact Or.inl rfl | exact Or.inr rfl | omega) ?_
      exact ⟨rfl, rfl⟩
    | succ m ih =>
      intro q hq
      obtain ⟨e', he', hee⟩ := hr q (by omega)
      have hne := hno q (by omega)
      rw [hee] at hne
      refine r_iload_n hG (hl0 := rfl) (hd := d_Lorry_comesTo_2) (K := ?_)
      refine r_aload_n hG (hl0 := rfl) (hd := d_Lorry_comesTo_3) (K := ?_)
      refine g_Lorry_20 hG (hi := by omega) (hd := d_Lorry_comesTo_4) (K := ?_)
      refine r_iload_n hG (hl0 := rfl) (hd := d_Lorry_comesTo_7) (K := ?_)
      first | refine a_16 hG (hd := d_Lorry_comesTo_8) (hz := rfl) (hj := by omega) (hi := by omega) (K := ?_) | refine a_17 hG (hd := d_Lorry_comesTo_8) (hz := rfl) (hj := by omega) (hi := by omega) (K := ?_) | refine a_18 hG (hd := d_Lorry_comesTo_8) (hz := rfl) (hj := by omega) (hi := by omega) (K := ?_) | refine a_19 hG (hd := d_Lorry_comesTo_8) (hz := rfl) (hj := by omega) (hi := by omega) (K := ?_) | refine a_4 hG (hd := d_Lorry_comesTo_8) (hz := rfl) (hj := by omega) (hi := by omega) (K := ?_) | refine a_5 hG (hd := d_Lorry_comesTo_8) (hz := rfl) (hj := by omega) (hi := by omega) (K := ?_) | refine a_21 hG (hd := d_Lorry_comesTo_8) (hz := rfl) (hj := by omega) (hi := by omega) (K := ?_) | refine a_23 hG (hd := d_Lorry_comesTo_8) (hz := rfl) (hj := by omega) (hi := by omega) (K := ?_) | refine a_24 hG (hd := d_Lorry_comesTo_8) (hz := rfl) (hj := by omega) (hi := by omega) (K := ?_)
      refine r_icmp_ge hG (hd := d_Lorry_comesTo_9) (kt := fun hh => absurd hh (by omega)) (kf := fun _ => ?_)
      refine r_aload_n hG (hl0 := rfl) (hd := d_Lorry_comesTo_12) (K := ?_)
      refine g_Lorry_17 hG (hi := by omega) (hd := d_Lorry_comesTo_13) (K := ?_)
      refine r_iload_n hG (hl0 := rfl) (hd := d_Lorry_comesTo_16) (K := ?_)
      first | refine a_1 hG (hd := d_Lorry_comesTo_17) (hz := rfl) (hj := by omega) (hi := by omega) (K := ?_) | refine a_2 hG (hd := d_Lorry_comesTo_17) (hz := rfl) (hj := by omega) (hi := by omega) (K := ?_) | refine a_10 hG (hd := d_Lorry_comesTo_17) (hz := rfl) (hj := by omega) (hi := by omega) (K := ?_) | refine r_aald22 hG (hd := d_Lorry_comesTo_17) (hz := rfl) (hj := by omega) (hi := by omega) (K := ?_)
      refine r_iload_n hG (hl0 := rfl) (hd := d_Lorry_comesTo_18) (K := ?_)
      first | refine a_16 hG (hd := d_Lorry_comesTo_19) (hz := rfl) (hj := by omega) (hi := by omega) (K := ?_) | refine a_17 hG (hd := d_Lorry_comesTo_19) (hz := rfl) (hj := by omega) (hi := by omega) (K := ?_) | refine a_18 hG (hd := d_Lorry_comesTo_19) (hz := rfl) (hj := by omega) (hi := by omega) (K := ?_) | refine a_19 hG (hd := d_Lorry_comesTo_19) (hz := rfl) (hj := by omega) (hi := by omega) (K := ?_) | refine a_4 hG (hd := d_Lorry_comesTo_19) (hz := rfl) (hj := by omega) (hi := by omega) (K := ?_) | refine a_5 hG (hd := d_Lorry_comesTo_19) (hz := rfl) (hj := by omega) (hi := by omega) (K := ?_) | refine a_21 hG (hd := d_Lorry_comesTo_19) (hz := rfl) (hj := by omega) (hi := by omega) (K := ?_) | refine a_23 hG (hd := d_Lorry_comesTo_19) (hz := rfl) (hj := by omega) (hi := by omega) (K := ?_) | refine a_24 hG (hd := d_Lorry_comesTo_19) (hz := rfl) (hj := by omega) (hi := by omega) (K := ?_)
      refine r_iload_n hG (hl0 := rfl) (hd := d_Lorry_comesTo_20) (K := ?_)
      refine r_icmp_ne hG (hd := d_Lorry_comesTo_21) (kt := fun _ => ?_) (kf := fun hh => absurd hh (by omega))
      refine r_iinc hG (hl0 := rfl) (hd := d_Lorry_comesTo_26) (K := ?_)
      refine r_goto hG (hd := d_Lorry_comesTo_29) (K := ?_)
      exact r_sb hG (ih (q + 1) (by omega)) ⟨rfl, rfl, rfl, rfl, trivial⟩
  exact r_sb hG (loop n 0 (by omega)) ⟨rfl, rfl, rfl, rfl, trivial⟩
/-- a street more -/
def addR (S : St) (i d e n : Nat) : St := sU (sU S 27 (7 * i + d) n e) 26 i d ((n : Int) + 1)
theorem ct_addToRound {Γ : Gm} {S : St} {i d e n : Nat} (hi : i < 3) (hd : d < 7) (hn : n < 6) (hl : S 26 i d = (n : Int)) : CT Γ y_Lorry_addToRound b_Lorry_addToRound 4 ((none : Option FieldType)) (rmx 1 0 0) [rf Γ 20 i, nt d, nt e] S (dX none (addR S i d e n)) := by
  refine CT.of (by first | exact plainFor_of_name (by rfl) | decide +kernel) (Nat.le_of_ble_eq_true rfl) ?_
  intro G hG
  show G (0, 0) 0 [(0, rf Γ 20 i), (1, nt d), (2, nt e)] [] _
  refine r_aload_n hG (hl0 := rfl) (hd := d_Lorry_addToRound_0) (K := ?_)
  refine g_Lorry_20 hG (hi := by omega) (hd := d_Lorry_addToRound_1) (K := ?_)
  refine r_iload_n hG (hl0 := rfl) (hd := d_Lorry_addToRound_4) (K := ?_)
  first | refine a_16 hG (hd := d_Lorry_addToRound_5) (hz := rfl) (hj := by omega) (hi := by omega) (K := ?_) | refine a_17 hG (hd := d_Lorry_addToRound_5) (hz := rfl) (hj := by omega) (hi := by omega) (K := ?_) | refine a_18 hG (hd := d_Lorry_addToRound_5) (hz := rfl) (hj := by omega) (hi := by omega) (K := ?_) | refine a_19 hG (hd := d_Lorry_addToRound_5) (hz := rfl) (hj := by omega) (hi := by omega) (K := ?_) | refine a_4 hG (hd := d_Lorry_addToRound_5) (hz := rfl) (hj := by omega) (hi := by omega) (K := ?_) | refine a_5 hG (hd := d_Lorry_addToRound_5) (hz := rfl) (hj := by omega) (hi := by omega) (K := ?_) | refine a_21 hG (hd := d_Lorry_addToRound_5) (hz := rfl) (hj := by omega) (hi := by omega) (K := ?_) | refine a_23 hG (hd := d_Lorry_addToRound_5) (hz := rfl) (hj := by omega) (hi := by omega) (K := ?_) | refine a_24 hG (hd := d_Lorry_addToRound_5) (hz := rfl) (hj := by omega) (hi := by omega) (K := ?_)
  rw [hl]
  refine r_istore_n hG (hd := d_Lorry_addToRound_6) (K := ?_)
  refine r_iload_n hG (hl0 := rfl) (hd := d_Lorry_addToRound_7) (K := ?_)
  refine r_bipush hG (hd := d_Lorry_addToRound_8) (K := ?_)
  refine r_icmp_ge hG (hd := d_Lorry_addToRound_10) (kt := fun hh => absurd hh (by omega)) (kf := fun _ => ?_)
  refine r_aload_n hG (hl0 := rfl) (hd := d_Lorry_addToRound_13) (K := ?_)
  refine g_Lorry_17 hG (hi := by omega) (hd := d_Lorry_addToRound_14) (K := ?_)
  refine r_iload_n hG (hl0 := rfl) (hd := d_Lorry_addToRound_17) (K := ?_)
  first | refine a_1 hG (hd := d_Lorry_addToRound_18) (hz := rfl) (hj := by omega) (hi := by omega) (K := ?_) | refine a_2 hG (hd := d_Lorry_addToRound_18) (hz := rfl) (hj := by omega) (hi := by omega) (K := ?_) | refine a_10 hG (hd := d_Lorry_addToRound_18) (hz := rfl) (hj := by omega) (hi := by omega) (K := ?_) | refine r_aald22 hG (hd := d_Lorry_addToRound_18) (hz := rfl) (hj := by omega) (hi := by omega) (K := ?_)
  refine r_iload_n hG (hl0 := rfl) (hd := d_Lorry_addToRound_19) (K := ?_)
  refine r_iload_n hG (hl0 := rfl) (hd := d_Lorry_addToRound_20) (K := ?_)
  first | refine s_16 hG (hd := d_Lorry_addToRound_21) (hz := rfl) (hj := by omega) (hi := by omega) (K := ?_) | refine s_17 hG (hd := d_Lorry_addToRound_21) (hz := rfl) (hj := by omega) (hi := by omega) (K := ?_) | refine s_18 hG (hd := d_Lorry_addToRound_21) (hz := rfl) (hj := by omega) (hi := by omega) (K := ?_) | refine s_19 hG (hd := d_Lorry_addToRound_21) (hz := rfl) (hj := by omega) (hi := by omega) (K := ?_) | refine s_4 hG (hd := d_Lorry_addToRound_21) (hz := rfl) (hj := by omega) (hi := by omega) (K := ?_) | refine s_5 hG (hd := d_Lorry_addToRound_21) (hz := rfl) (hj := by omega) (hi := by omega) (K := ?_) | refine s_21 hG (hd := d_Lorry_addToRound_21) (hz := rfl) (hj := by omega) (hi := by omega) (K := ?_) | refine s_23 hG (hd := d_Lorry_addToRound_21) (hz := rfl) (hj := by omega) (hi := by omega) (K := ?_) | refine s_24 hG (hd := d_Lorry_addToRound_21) (hz := rfl) (hj := by omega) (hi := by omega) (K := ?_)
  refine r_aload_n hG (hl0 := rfl) (hd := d_Lorry_addToRound_22) (K := ?_)
  refine g_Lorry_20 hG (hi := by omega) (hd := d_Lorry_addToRound_23) (K := ?_)
  refine r_iload_n hG (hl0 := rfl) (hd := d_Lorry_addToRound_26) (K := ?_)
  refine r_iload_n hG (hl0 := rfl) (hd := d_Lorry_addToRound_27) (K := ?_)
  refine r_iconst hG (hd := d_Lorry_addToRound_28) (K := ?_)
  first | refine r_iadd hG (hd := d_Lorry_addToRound_29) (K := ?_) | refine r_iaddr hG (hd := d_Lorry_addToRound_29) (K := ?_)
  first | refine s_16 hG (hd := d_Lorry_addToRound_30) (hz := rfl) (hj := by omega) (hi := by omega) (K := ?_) | refine s_17 hG (hd := d_Lorry_addToRound_30) (hz := rfl) (hj := by omega) (hi := by omega) (K := ?_) | refine s_18 hG (hd := d_Lorry_addToRound_30) (hz := rfl) (hj := by omega) (hi := by omega) (K := ?_) | refine s_19 hG (hd := d_Lorry_addToRound_30) (hz := rfl) (hj := by omega) (hi := by omega) (K := ?_) | refine s_4 hG (hd := d_Lorry_addToRound_30) (hz := rfl) (hj := by omega) (hi := by omega) (K := ?_) | refine s_5 hG (hd := d_Lorry_addToRound_30) (hz := rfl) (hj := by omega) (hi := by omega) (K := ?_) | refine s_21 hG (hd := d_Lorry_addToRound_30) (hz := rfl) (hj := by omega) (hi := by omega) (K := ?_) | refine s_23 hG (hd := d_Lorry_addToRound_30) (hz := rfl) (hj := by omega) (hi := by omega) (K := ?_) | refine s_24 hG (hd := d_Lorry_addToRound_30) (hz := rfl) (hj := by omega) (hi := by omega) (K := ?_)
  refine r_vret hG d_Lorry_addToRound_31 ⟨(Nat.le_of_ble_eq_true rfl), (Nat.le_of_ble_eq_true rfl)⟩ ?_
  exact ⟨rfl, rfl⟩
def noteS (S : St) (i d : Nat) : St :=
  let S1 := sU S 24 i 0 (S 24 i 0 + S 33 i 0)
  let S2 := sU S1 21 i 0 (S1 30 i 0)
  let S3 := sU S2 22 i 0 (S2 31 i 0)
  let S4 := sU S3 23 i 0 (S3 32 i 0)
  if 0 < S 26 i d then S4 else S1
theorem ct_noteTrip {Γ : Gm} {S : St} {i d n : Nat} (hi : i < 3) (hd : d < 7) (hn : n ≤ 6) (hl : S 26 i d = (n : Int)) : CT Γ y_Lorry_noteTrip b_Lorry_noteTrip 2 ((none : Option FieldType)) (rmx 1 0 0) [rf Γ 20 i, nt d] S (dX none (noteS S i d)) := by
  refine CT.of (by first | exact plainFor_of_name (by rfl) | decide +kernel) (Nat.le_of_ble_eq_true rfl) ?_
  intro G hG
  show G (0, 0) 0 [(0, rf Γ 20 i), (1, nt d)] [] _
  refine r_aload_n hG (hl0 := rfl) (hd := d_Lorry_noteTrip_0) (K := ?_)
  refine r_dup hG (hd := d_Lorry_noteTrip_1) (K := ?_)
  refine g_Lorry_30 hG (hi := by omega) (hd := d_Lorry_noteTrip_2) (K := ?_)
  refine r_aload_n hG (hl0 := rfl) (hd := d_Lorry_noteTrip_5) (K := ?_)
  refine g_Lorry_26 hG (hi := by omega) (hd := d_Lorry_noteTrip_6) (K := ?_)
  refine g_Lorry_34 hG (hi := by omega) (hd := d_Lorry_noteTrip_9) (K := ?_)
  first | refine r_iadd hG (hd := d_Lorry_noteTrip_12) (K := ?_) | refine r_iaddr hG (hd := d_Lorry_noteTrip_12) (K := ?_)
  refine p_Lorry_30 hG (hi := by omega) (hd := d_Lorry_noteTrip_13) (K := ?_)
  refine r_aload_n hG (hl0 := rfl) (hd := d_Lorry_noteTrip_16) (K := ?_)
  refine g_Lorry_20 hG (hi := by omega) (hd := d_Lorry_noteTrip_17) (K := ?_)
  refine r_iload_n hG (hl0 := rfl) (hd := d_Lorry_noteTrip_20) (K := ?_)
  first | refine a_16 hG (hd := d_Lorry_noteTrip_21) (hz := rfl) (hj := by omega) (hi := by omega) (K := ?_) | refine a_17 hG (hd := d_Lorry_noteTrip_21) (hz := rfl) (hj := by omega) (hi := by omega) (K := ?_) | refine a_18 hG (hd := d_Lorry_noteTrip_21) (hz := rfl) (hj := by omega) (hi := by omega) (K := ?_) | refine a_19 hG (hd := d_Lorry_noteTrip_21) (hz := rfl) (hj := by omega) (hi := by omega) (K := ?_) | refine a_4 hG (hd := d_Lorry_noteTrip_21) (hz := rfl) (hj := by omega) (hi := by omega) (K := ?_) | refine a_5 hG (hd := d_Lorry_noteTrip_21) (hz := rfl) (hj := by omega) (hi := by omega) (K := ?_) | refine a_21 hG (hd := d_Lorry_noteTrip_21) (hz := rfl) (hj := by omega) (hi := by omega) (K := ?_) | refine a_23 hG (hd := d_Lorry_noteTrip_21) (hz := rfl) (hj := by omega) (hi := by omega) (K := ?_) | refine a_24 hG (hd := d_Lorry_noteTrip_21) (hz := rfl) (hj := by omega) (hi := by omega) (K := ?_)
  rw [show sU S 24 i 0 (S 24 i 0 + S 33 i 0) 26 i d = (n : Int) by rw [sU_nf (by decide), hl]]
  refine r_if_le hG (hd := d_Lorry_noteTrip_22) (kt := fun h => ?_) (kf := fun h => ?_)
  · refine r_vret hG d_Lorry_noteTrip_58 ⟨(Nat.le_of_ble_eq_true rfl), (Nat.le_of_ble_eq_true rfl)⟩ ?_
    exact ⟨rfl, (if_neg (by omega)).symm⟩
  · refine r_aload_n hG (hl0 := rfl) (hd := d_Lorry_noteTrip_25) (K := ?_)
    refine r_aload_n hG (hl0 := rfl) (hd := d_Lorry_noteTrip_26) (K := ?_)
    refine g_Lorry_26 hG (hi := by omega) (hd := d_Lorry_noteTrip_27) (K := ?_)
    refine g_Lorry_35 hG (hi := by omega) (hd := d_Lorry_noteTrip_30) (K := ?_)
    refine p_Lorry_38 hG (hi := by omega) (hd := d_Lorry_noteTrip_33) (K := ?_)
    refine r_aload_n hG (hl0 := rfl) (hd := d_Lorry_noteTrip_36) (K := ?_)
    refine r_aload_n hG (hl0 := rfl) (hd := d_Lorry_noteTrip_37) (K := ?_)
    refine g_Lorry_26 hG (hi := by omega) (hd := d_Lorry_noteTrip_38) (K := ?_)
    refine g_Lorry_41 hG (hi := by omega) (hd := d_Lorry_noteTrip_41) (K := ?_)
    refine p_Lorry_44 hG (hi := by omega) (hd := d_Lorry_noteTrip_44) (K := ?_)
    refine r_aload_n hG (hl0 := rfl) (hd := d_Lorry_noteTrip_47) (K := ?_)
    refine r_aload_n hG (hl0 := rfl) (hd := d_Lorry_noteTrip_48) (K := ?_)
    refine g_Lorry_26 hG (hi := by omega) (hd := d_Lorry_noteTrip_49) (K := ?_)
    refine g_Lorry_47 hG (hi := by omega) (hd := d_Lorry_noteTrip_52) (K := ?_)
    refine p_Lorry_50 hG (hi := by omega) (hd := d_Lorry_noteTrip_55) (K := ?_)
    refine r_vret hG d_Lorry_noteTrip_58 ⟨(Nat.le_of_ble_eq_true rfl), (Nat.le_of_ble_eq_true rfl)⟩ ?_
    exact ⟨rfl, (if_pos (by omega)).symm⟩
def beginS (S : St) (c : Nat) : St := sU (sU (sU (sU (sU (sU (sU S 34 c 0 0) 35 c 0 0) 34 c 1 0) 35 c 1 0) 31 c 0 0) 32 c 0 0) 33 c 0 0
theorem ct_tripBegin {Γ : Gm} {S : St} {c : Nat} (hc : c < 4) : CT Γ y_Trip_begin b_Trip_begin 2 ((none : Option FieldType)) (rmx 1 0 0) [rf Γ 3 c] S (dX none (beginS S c)) := by
  refine CT.of (by first | exact plainFor_of_name (by rfl) | decide +kernel) (Nat.le_of_ble_eq_true rfl) ?_
  intro G hG
  show G (0, 0) 0 [(0, rf Γ 3 c)] [] _
  refine r_iconst hG (hd := d_Trip_begin_0) (K := ?_)
  refine r_istore_n hG (hd := d_Trip_begin_1) (K := ?_)
  have step : ∀ (j : Nat) (S : St), j < 2 → G (0, 0) 2 [(0, rf Γ 3 c), (1, nt ((j + 1 : Nat) : Int))] [] (sU (sU S 34 c j 0) 35 c j 0) → G (0, 0) 2 [(0, rf Γ 3 c), (1, nt j)] [] S := by
    intro j S hj K
    refine r_iload_n hG (hl0 := rfl) (hd := d_Trip_begin_2) (K := ?_)
    refine r_iconst hG (hd := d_Trip_begin_3) (K := ?_)
    refine r_icmp_ge hG (hd := d_Trip_begin_4) (kt := fun hh => absurd hh (by omega)) (kf := fun _ => ?_)
    refine r_aload_n hG (hl0 := rfl) (hd := d_Trip_begin_7) (K := ?_)
    refine g_Trip_9 hG (hi := by omega) (hd := d_Trip_begin_8) (K := ?_)
    refine r_iload_n hG (hl0 := rfl) (hd := d_Trip_begin_11) (K := ?_)
    refine r_iconst hG (hd := d_Trip_begin_12) (K := ?_)
    first | refine s_16 hG (hd := d_Trip_begin_13) (hz := rfl) (hj := by omega) (hi := by omega) (K := ?_) | refine s_17 hG (hd := d_Trip_begin_13) (hz := rfl) (hj := by omega) (hi := by omega) (K := ?_) | refine s_18 hG (hd := d_Trip_begin_13) (hz := rfl) (hj := by omega) (hi := by omega) (K := ?_) | refine s_19 hG (hd := d_Trip_begin_13) (hz := rfl) (hj := by omega) (hi := by omega) (K := ?_) | refine s_4 hG (hd := d_Trip_begin_13) (hz := rfl) (hj := by omega) (hi := by omega) (K := ?_) | refine s_5 hG (hd := d_Trip_begin_13) (hz := rfl) (hj := by omega) (hi := by omega) (K := ?_) | refine s_21 hG (hd := d_Trip_begin_13) (hz := rfl) (hj := by omega) (hi := by omega) (K := ?_) | refine s_23 hG (hd := d_Trip_begin_13) (hz := rfl) (hj := by omega) (hi := by omega) (K := ?_) | refine s_24 hG (hd := d_Trip_begin_13) (hz := rfl) (hj := by omega) (hi := by omega) (K := ?_)
    refine r_aload_n hG (hl0 := rfl) (hd := d_Trip_begin_14) (K := ?_)
    refine g_Trip_15 hG (hi := by omega) (hd := d_Trip_begin_15) (K := ?_)
    refine r_iload_n hG (hl0 := rfl) (hd := d_Trip_begin_18) (K := ?_)
    refine r_iconst hG (hd := d_Trip_begin_19) (K := ?_)
    first | refine s_16 hG (hd := d_Trip_begin_20) (hz := rfl) (hj := by omega) (hi := by omega) (K := ?_) | refine s_17 hG (hd := d_Trip_begin_20) (hz := rfl) (hj := by omega) (hi := by omega) (K := ?_) | refine s_18 hG (hd := d_Trip_begin_20) (hz := rfl) (hj := by omega) (hi := by omega) (K := ?_) | refine s_19 hG (hd := d_Trip_begin_20) (hz := rfl) (hj := by omega) (hi := by omega) (K := ?_) | refine s_4 hG (hd := d_Trip_begin_20) (hz := rfl) (hj := by omega) (hi := by omega) (K := ?_) | refine s_5 hG (hd := d_Trip_begin_20) (hz := rfl) (hj := by omega) (hi := by omega) (K := ?_) | refine s_21 hG (hd := d_Trip_begin_20) (hz := rfl) (hj := by omega) (hi := by omega) (K := ?_) | refine s_23 hG (hd := d_Trip_begin_20) (hz := rfl) (hj := by omega) (hi := by omega) (K := ?_) | refine s_24 hG (hd := d_Trip_begin_20) (hz := rfl) (hj := by omega) (hi := by omega) (K := ?_)
    refine r_iinc hG (hl0 := rfl) (hd := d_Trip_begin_21) (K := ?_)
    refine r_goto hG (hd := d_Trip_begin_24) (K := ?_)
    exact r_sb hG (K) ⟨rfl, rfl, trivial⟩
  refine r_sb hG (step 0 S (by decide) (step 1 _ (by decide) ?_)) ⟨rfl, rfl, trivial⟩
  refine r_iload_n hG (hl0 := rfl) (hd := d_Trip_begin_2) (K := ?_)
  refine r_iconst hG (hd := d_Trip_begin_3) (K := ?_)
  refine r_icmp_ge hG (hd := d_Trip_begin_4) (kt := fun _ => ?_) (kf := fun hh => absurd hh (by omega))
  refine r_aload_n hG (hl0 := rfl) (hd := d_Trip_begin_27) (K := ?_)
  refine r_iconst hG (hd := d_Trip_begin_28) (K := ?_)
  refine p_Trip_52 hG (hi := by omega) (hd := d_Trip_begin_29) (K := ?_)
  refine r_aload_n hG (hl0 := rfl) (hd := d_Trip_begin_32) (K := ?_)
  refine r_iconst hG (hd := d_Trip_begin_33) (K := ?_)
  refine p_Trip_55 hG (hi := by omega) (hd := d_Trip_begin_34) (K := ?_)
  refine r_aload_n hG (hl0 := rfl) (hd := d_Trip_begin_37) (K := ?_)
  refine r_iconst hG (hd := d_Trip_begin_38) (K := ?_)
  refine p_Trip_58 hG (hi := by omega) (hd := d_Trip_begin_39) (K := ?_)
  refine r_vret hG d_Trip_begin_42 ⟨(Nat.le_of_ble_eq_true rfl), (Nat.le_of_ble_eq_true rfl)⟩ ?_
  exact ⟨rfl, rfl⟩
def pureL (S : St) (c t j k : Nat) : Int := min (S 16 t j) (150 - S 34 c k - S 35 c k)
def foulL (S : St) (c t j k : Nat) : Int := min (S 17 t j) (150 - S 34 c k - S 35 c k - pureL S c t j k)
/-- of the bin t, j into the chamber c, k -/
def loadS (S : St) (c t j k : Nat) : St :=
  let S1 := sU S 16 t j (S 16 t j - pureL S c t j k)
  let S2 := sU S1 17 t j (S1 17 t j - foulL S c t j k)
  let S3 := sU S2 18 t j (S2 18 t j + (pureL S c t j k + foulL S c t j k))
  let S4 := sU S3 34 c k (S3 34 c k + pureL S c t j k)
  let S5 := sU S4 35 c k (S4 35 c k + foulL S c t j k)
  sU S5 33 c 0 (S5 33 c 0 + (pureL S c t j k + foulL S c t j k))
theorem loadS_of (S : St) (c t j k : Nat) {f : Nat} (h : f ≠ 16 ∧ f ≠ 17 ∧ f ≠ 18 ∧ f ≠ 34 ∧ f ≠ 35 ∧ f ≠ 33) : loadS S c t j k f = S f := by
  funext i q
  simp only [loadS]
  rw [sU_nf h.2.2.2.2.2, sU_nf h.2.2.2.2.1, sU_nf h.2.2.2.1, sU_nf h.2.2.1, sU_nf h.2.1, sU_nf h.1]
theorem loadS_16 (S : St) (c t j k t' j' : Nat) : loadS S c t j k 16 t' j' = if t' = t ∧ j' = j then S 16 t j - pureL S c t j k else S 16 t' j' := by
  simp only [loadS]; simp [sU]
theorem loadS_17 (S : St) (c t j k t' j' : Nat) : loadS S c t j k 17 t' j' = if t' = t ∧ j' = j then S 17 t j - foulL S c t j k else S 17 t' j' := by
  simp only [loadS]; simp [sU]
theorem loadS_18 (S : St) (c t j k t' j' : Nat) : loadS S c t j k 18 t' j' = if t' = t ∧ j' = j then S 18 t j + (pureL S c t j k + foulL S c t j k) else S 18 t' j' := by
  simp only [loadS]; simp [sU]
theorem loadS_34 (S : St) (c t j k c' k' : Nat) : loadS S c t j k 34 c' k' = if c' = c ∧ k' = k then S 34 c k + pureL S c t j k else S 34 c' k' := by
  simp only [loadS]; simp [sU]
theorem loadS_35 (S : St) (c t j k c' k' : Nat) : loadS S c t j k 35 c' k' = if c' = c ∧ k' = k then S 35 c k + foulL S c t j k else S 35 c' k' := by
  simp only [loadS]; simp [sU]
theorem loadS_33 (S : St) (c t j k c' : Nat) : loadS S c t j k 33 c' 0 = if c' = c then S 33 c 0 + (pureL S c t j k + foulL S c t j k) else S 33 c' 0 := by
  simp only [loadS]; simp [sU]
def okC (S : St) (c k : Nat) : Prop := 0 ≤ S 34 c k ∧ 0 ≤ S 35 c k ∧ S 34 c k + S 35 c k ≤ 150
theorem load_in {S : St} {c t j k : Nat} (hj : j < 3) (ht : okT S t) (hc : okC S c k) : 0 ≤ pureL S c t j k ∧ pureL S c t j k ≤ S 16 t j ∧ 0 ≤ foulL S c t j k ∧ foulL S c t j k ≤ S 17 t j ∧ S 34 c k + pureL S c t j k + (S 35 c k + foulL S c t j k) ≤ 150 := by
  have h := ht.2.2 j hj
  unfold okC at hc
  unfold foulL pureL
  omega
theorem ct_load {Γ : Gm} {S : St} {c t j k : Nat} (hc : c < 4) (ht : t < 12) (hj : j < 3) (hk : k < 2) (hT : okT S t) (hC : okC S c k) : CT Γ y_Trip_load b_Trip_load 7 ((none : Option FieldType)) (rmx 2 0 0) [rf Γ 3 c, rf Γ 15 t, nt j, nt k] S (dX none (loadS S c t j k)) := by
  have h := hT.2.2 j hj
  unfold okC at hC
  refine CT.of (by first | exact plainFor_of_name (by rfl) | decide +kernel) (Nat.le_of_ble_eq_true rfl) ?_
  intro G hG
  show G (0, 0) 0 [(0, rf Γ 3 c), (1, rf Γ 15 t), (2, nt j), (3, nt k)] [] _
  refine r_sipush hG (hd := d_Trip_load_0) (K := ?_)
  refine r_aload_n hG (hl0 := rfl) (hd := d_Trip_load_3) (K := ?_)
  refine g_Trip_9 hG (hi := by omega) (hd := d_Trip_load_4) (K := ?_)
  refine r_iload_n hG (hl0 := rfl) (hd := d_Trip_load_7) (K := ?_)
  first | refine a_16 hG (hd := d_Trip_load_8) (hz := rfl) (hj := by omega) (hi := by omega) (K := ?_) | refine a_17 hG (hd := d_Trip_load_8) (hz := rfl) (hj := by omega) (hi := by omega) (K := ?_) | refine a_18 hG (hd := d_Trip_load_8) (hz := rfl) (hj := by omega) (hi := by omega) (K := ?_) | refine a_19 hG (hd := d_Trip_load_8) (hz := rfl) (hj := by omega) (hi := by omega) (K := ?_) | refine a_4 hG (hd := d_Trip_load_8) (hz := rfl) (hj := by omega) (hi := by omega) (K := ?_) | refine a_5 hG (hd := d_Trip_load_8) (hz := rfl) (hj := by omega) (hi := by omega) (K := ?_) | refine a_21 hG (hd := d_Trip_load_8) (hz := rfl) (hj := by omega) (hi := by omega) (K := ?_) | refine a_23 hG (hd := d_Trip_load_8) (hz := rfl) (hj := by omega) (hi := by omega) (K := ?_) | refine a_24 hG (hd := d_Trip_load_8) (hz := rfl) (hj := by omega) (hi := by omega) (K := ?_)
  first | refine r_isub hG (hd := d_Trip_load_9) (K := ?_) | refine r_isubr hG (hd := d_Trip_load_9) (K := ?_)
  refine r_aload_n hG (hl0 := rfl) (hd := d_Trip_load_10) (K := ?_)
  refine g_Trip_15 hG (hi := by omega) (hd := d_Trip_load_11) (K := ?_)
  refine r_iload_n hG (hl0 := rfl) (hd := d_Trip_load_14) (K := ?_)
  first | refine a_16 hG (hd := d_Trip_load_15) (hz := rfl) (hj := by omega) (hi := by omega) (K := ?_) | refine a_17 hG (hd := d_Trip_load_15) (hz := rfl) (hj := by omega) (hi := by omega) (K := ?_) | refine a_18 hG (hd := d_Trip_load_15) (hz := rfl) (hj := by omega) (hi := by omega) (K := ?_) | refine a_19 hG (hd := d_Trip_load_15) (hz := rfl) (hj := by omega) (hi := by omega) (K := ?_) | refine a_4 hG (hd := d_Trip_load_15) (hz := rfl) (hj := by omega) (hi := by omega) (K := ?_) | refine a_5 hG (hd := d_Trip_load_15) (hz := rfl) (hj := by omega) (hi := by omega) (K := ?_) | refine a_21 hG (hd := d_Trip_load_15) (hz := rfl) (hj := by omega) (hi := by omega) (K := ?_) | refine a_23 hG (hd := d_Trip_load_15) (hz := rfl) (hj := by omega) (hi := by omega) (K := ?_) | refine a_24 hG (hd := d_Trip_load_15) (hz := rfl) (hj := by omega) (hi := by omega) (K := ?_)
  first | refine r_isub hG (hd := d_Trip_load_16) (K := ?_) | refine r_isubr hG (hd := d_Trip_load_16) (K := ?_)
  refine r_istore hG (hd := d_Trip_load_17) (K := ?_)
  refine r_aload_n hG (hl0 := rfl) (hd := d_Trip_load_19) (K := ?_)
  refine g_Trip_71 hG (hi := by omega) (hd := d_Trip_load_20) (K := ?_)
  refine r_iload_n hG (hl0 := rfl) (hd := d_Trip_load_23) (K := ?_)
  first | refine a_16 hG (hd := d_Trip_load_24) (hz := rfl) (hj := by omega) (hi := by omega) (K := ?_) | refine a_17 hG (hd := d_Trip_load_24) (hz := rfl) (hj := by omega) (hi := by omega) (K := ?_) | refine a_18 hG (hd := d_Trip_load_24) (hz := rfl) (hj := by omega) (hi := by omega) (K := ?_) | refine a_19 hG (hd := d_Trip_load_24) (hz := rfl) (hj := by omega) (hi := by omega) (K := ?_) | refine a_4 hG (hd := d_Trip_load_24) (hz := rfl) (hj := by omega) (hi := by omega) (K := ?_) | refine a_5 hG (hd := d_Trip_load_24) (hz := rfl) (hj := by omega) (hi := by omega) (K := ?_) | refine a_21 hG (hd := d_Trip_load_24) (hz := rfl) (hj := by omega) (hi := by omega) (K := ?_) | refine a_23 hG (hd := d_Trip_load_24) (hz := rfl) (hj := by omega) (hi := by omega) (K := ?_) | refine a_24 hG (hd := d_Trip_load_24) (hz := rfl) (hj := by omega) (hi := by omega) (K := ?_)
  refine r_iload hG (hl0 := rfl) (hd := d_Trip_load_25) (K := ?_)
  refine r_mmin hG w_Trip_72 d_Trip_load_27 ⟨(Nat.le_of_ble_eq_true rfl), (Nat.le_of_ble_eq_true rfl)⟩ ⟨(Nat.le_of_ble_eq_true rfl), (Nat.le_of_ble_eq_true rfl)⟩ (by first | omega | (simp [sU]; omega)) ?_
  refine r_istore hG (hd := d_Trip_load_30) (K := ?_)
  refine r_aload_n hG (hl0 := rfl) (hd := d_Trip_load_32) (K := ?_)
  refine g_Trip_76 hG (hi := by omega) (hd := d_Trip_load_33) (K := ?_)
  refine r_iload_n hG (hl0 := rfl) (hd := d_Trip_load_36) (K := ?_)
  first | refine a_16 hG (hd := d_Trip_load_37) (hz := rfl) (hj := by omega) (hi := by omega) (K := ?_) | refine a_17 hG (hd := d_Trip_load_37) (hz := rfl) (hj := by omega) (hi := by omega) (K := ?_) | refine a_18 hG (hd := d_Trip_load_37) (hz := rfl) (hj := by omega) (hi := by omega) (K := ?_) | refine a_19 hG (hd := d_Trip_load_37) (hz := rfl) (hj := by omega) (hi := by omega) (K := ?_) | refine a_4 hG (hd := d_Trip_load_37) (hz := rfl) (hj := by omega) (hi := by omega) (K := ?_) | refine a_5 hG (hd := d_Trip_load_37) (hz := rfl) (hj := by omega) (hi := by omega) (K := ?_) | refine a_21 hG (hd := d_Trip_load_37) (hz := rfl) (hj := by omega) (hi := by omega) (K := ?_) | refine a_23 hG (hd := d_Trip_load_37) (hz := rfl) (hj := by omega) (hi := by omega) (K := ?_) | refine a_24 hG (hd := d_Trip_load_37) (hz := rfl) (hj := by omega) (hi := by omega) (K := ?_)
  refine r_iload hG (hl0 := rfl) (hd := d_Trip_load_38) (K := ?_)
  refine r_iload hG (hl0 := rfl) (hd := d_Trip_load_40) (K := ?_)
  first | refine r_isub hG (hd := d_Trip_load_42) (K := ?_) | refine r_isubr hG (hd := d_Trip_load_42) (K := ?_)
  refine r_mmin hG w_Trip_72 d_Trip_load_43 ⟨(Nat.le_of_ble_eq_true rfl), (Nat.le_of_ble_eq_true rfl)⟩ ⟨(Nat.le_of_ble_eq_true rfl), (Nat.le_of_ble_eq_true rfl)⟩ (by first | omega | (simp [sU]; omega)) ?_
  refine r_istore hG (hd := d_Trip_load_46) (K := ?_)
  refine r_aload_n hG (hl0 := rfl) (hd := d_Trip_load_48) (K := ?_)
  refine g_Trip_71 hG (hi := by omega) (hd := d_Trip_load_49) (K := ?_)
  refine r_iload_n hG (hl0 := rfl) (hd := d_Trip_load_52) (K := ?_)
  refine r_dup2 hG (hd := d_Trip_load_53) (K := ?_)
  first | refine a_16 hG (hd := d_Trip_load_54) (hz := rfl) (hj := by omega) (hi := by omega) (K := ?_) | refine a_17 hG (hd := d_Trip_load_54) (hz := rfl) (hj := by omega) (hi := by omega) (K := ?_) | refine a_18 hG (hd := d_Trip_load_54) (hz := rfl) (hj := by omega) (hi := by omega) (K := ?_) | refine a_19 hG (hd := d_Trip_load_54) (hz := rfl) (hj := by omega) (hi := by omega) (K := ?_) | refine a_4 hG (hd := d_Trip_load_54) (hz := rfl) (hj := by omega) (hi := by omega) (K := ?_) | refine a_5 hG (hd := d_Trip_load_54) (hz := rfl) (hj := by omega) (hi := by omega) (K := ?_) | refine a_21 hG (hd := d_Trip_load_54) (hz := rfl) (hj := by omega) (hi := by omega) (K := ?_) | refine a_23 hG (hd := d_Trip_load_54) (hz := rfl) (hj := by omega) (hi := by omega) (K := ?_) | refine a_24 hG (hd := d_Trip_load_54) (hz := rfl) (hj := by omega) (hi := by omega) (K := ?_)
  refine r_iload hG (hl0 := rfl) (hd := d_Trip_load_55) (K := ?_)
  first | refine r_isub hG (hd := d_Trip_load_57) (K := ?_) | refine r_isubr hG (hd := d_Trip_load_57) (K := ?_)
  first | refine s_16 hG (hd := d_Trip_load_58) (hz := rfl) (hj := by omega) (hi := by omega) (K := ?_) | refine s_17 hG (hd := d_Trip_load_58) (hz := rfl) (hj := by omega) (hi := by omega) (K := ?_) | refine s_18 hG (hd := d_Trip_load_58) (hz := rfl) (hj := by omega) (hi := by omega) (K := ?_) | refine s_19 hG (hd := d_Trip_load_58) (hz := rfl) (hj := by omega) (hi := by omega) (K := ?_) | refine s_4 hG (hd := d_Trip_load_58) (hz := rfl) (hj := by omega) (hi := by omega) (K := ?_) | refine s_5 hG (hd := d_Trip_load_58) (hz := rfl) (hj := by omega) (hi := by omega) (K := ?_) | refine s_21 hG (hd := d_Trip_load_58) (hz := rfl) (hj := by omega) (hi := by omega) (K := ?_) | refine s_23 hG (hd := d_Trip_load_58) (hz := rfl) (hj := by omega) (hi := by omega) (K := ?_) | refine s_24 hG (hd := d_Trip_load_58) (hz := rfl) (hj := by omega) (hi := by omega) (K := ?_)
  refine r_aload_n hG (hl0 := rfl) (hd := d_Trip_load_59) (K := ?_)
  refine g_Trip_76 hG (hi := by omega) (hd := d_Trip_load_60) (K := ?_)
  refine r_iload_n hG (hl0 := rfl) (hd := d_Trip_load_63) (K := ?_)
  refine r_dup2 hG (hd := d_Trip_load_64) (K := ?_)
  first | refine a_16 hG (hd := d_Trip_load_65) (hz := rfl) (hj := by omega) (hi := by omega) (K := ?_) | refine a_17 hG (hd := d_Trip_load_65) (hz := rfl) (hj := by omega) (hi := by omega) (K := ?_) | refine a_18 hG (hd := d_Trip_load_65) (hz := rfl) (hj := by omega) (hi := by omega) (K := ?_) | refine a_19 hG (hd := d_Trip_load_65) (hz := rfl) (hj := by omega) (hi := by omega) (K := ?_) | refine a_4 hG (hd := d_Trip_load_65) (hz := rfl) (hj := by omega) (hi := by omega) (K := ?_) | refine a_5 hG (hd := d_Trip_load_65) (hz := rfl) (hj := by omega) (hi := by omega) (K := ?_) | refine a_21 hG (hd := d_Trip_load_65) (hz := rfl) (hj := by omega) (hi := by omega) (K := ?_) | refine a_23 hG (hd := d_Trip_load_65) (hz := rfl) (hj := by omega) (hi := by omega) (K := ?_) | refine a_24 hG (hd := d_Trip_load_65) (hz := rfl) (hj := by omega) (hi := by omega) (K := ?_)
  refine r_iload hG (hl0 := rfl) (hd := d_Trip_load_66) (K := ?_)
  first | refine r_isub hG (hd := d_Trip_load_68) (K := ?_) | refine r_isubr hG (hd := d_Trip_load_68) (K := ?_)
  first | refine s_16 hG (hd := d_Trip_load_69) (hz := rfl) (hj := by omega) (hi := by omega) (K := ?_) | refine s_17 hG (hd := d_Trip_load_69) (hz := rfl) (hj := by omega) (hi := by omega) (K := ?_) | refine s_18 hG (hd := d_Trip_load_69) (hz := rfl) (hj := by omega) (hi := by omega) (K := ?_) | refine s_19 hG (hd := d_Trip_load_69) (hz := rfl) (hj := by omega) (hi := by omega) (K := ?_) | refine s_4 hG (hd := d_Trip_load_69) (hz := rfl) (hj := by omega) (hi := by omega) (K := ?_) | refine s_5 hG (hd := d_Trip_load_69) (hz := rfl) (hj := by omega) (hi := by omega) (K := ?_) | refine s_21 hG (hd := d_Trip_load_69) (hz := rfl) (hj := by omega) (hi := by omega) (K := ?_) | refine s_23 hG (hd := d_Trip_load_69) (hz := rfl) (hj := by omega) (hi := by omega) (K := ?_) | refine s_24 hG (hd := d_Trip_load_69) (hz := rfl) (hj := by omega) (hi := by omega) (K := ?_)
  refine r_aload_n hG (hl0 := rfl) (hd := d_Trip_load_70) (K := ?_)
  refine g_Trip_77 hG (hi := by omega) (hd := d_Trip_load_71) (K := ?_)
  refine r_iload_n hG (hl0 := rfl) (hd := d_Trip_load_74) (K := ?_)
  refine r_dup2 hG (hd := d_Trip_load_75) (K := ?_)
  first | refine a_16 hG (hd := d_Trip_load_76) (hz := rfl) (hj := by omega) (hi := by omega) (K := ?_) | refine a_17 hG (hd := d_Trip_load_76) (hz := rfl) (hj := by omega) (hi := by omega) (K := ?_) | refine a_18 hG (hd := d_Trip_load_76) (hz := rfl) (hj := by omega) (hi := by omega) (K := ?_) | refine a_19 hG (hd := d_Trip_load_76) (hz := rfl) (hj := by omega) (hi := by omega) (K := ?_) | refine a_4 hG (hd := d_Trip_load_76) (hz := rfl) (hj := by omega) (hi := by omega) (K := ?_) | refine a_5 hG (hd := d_Trip_load_76) (hz := rfl) (hj := by omega) (hi := by omega) (K := ?_) | refine a_21 hG (hd := d_Trip_load_76) (hz := rfl) (hj := by omega) (hi := by omega) (K := ?_) | refine a_23 hG (hd := d_Trip_load_76) (hz := rfl) (hj := by omega) (hi := by omega) (K := ?_) | refine a_24 hG (hd := d_Trip_load_76) (hz := rfl) (hj := by omega) (hi := by omega) (K := ?_)
  refine r_iload hG (hl0 := rfl) (hd := d_Trip_load_77) (K := ?_)
  refine r_iload hG (hl0 := rfl) (hd := d_Trip_load_79) (K := ?_)
  first | refine r_iadd hG (hd := d_Trip_load_81) (K := ?_) | refine r_iaddr hG (hd := d_Trip_load_81) (K := ?_)
  first | refine r_iadd hG (hd := d_Trip_load_82) (K := ?_) | refine r_iaddr hG (hd := d_Trip_load_82) (K := ?_)
  first | refine s_16 hG (hd := d_Trip_load_83) (hz := rfl) (hj := by omega) (hi := by omega) (K := ?_) | refine s_17 hG (hd := d_Trip_load_83) (hz := rfl) (hj := by omega) (hi := by omega) (K := ?_) | refine s_18 hG (hd := d_Trip_load_83) (hz := rfl) (hj := by omega) (hi := by omega) (K := ?_) | refine s_19 hG (hd := d_Trip_load_83) (hz := rfl) (hj := by omega) (hi := by omega) (K := ?_) | refine s_4 hG (hd := d_Trip_load_83) (hz := rfl) (hj := by omega) (hi := by omega) (K := ?_) | refine s_5 hG (hd := d_Trip_load_83) (hz := rfl) (hj := by omega) (hi := by omega) (K := ?_) | refine s_21 hG (hd := d_Trip_load_83) (hz := rfl) (hj := by omega) (hi := by omega) (K := ?_) | refine s_23 hG (hd := d_Trip_load_83) (hz := rfl) (hj := by omega) (hi := by omega) (K := ?_) | refine s_24 hG (hd := d_Trip_load_83) (hz := rfl) (hj := by omega) (hi := by omega) (K := ?_)
  refine r_aload_n hG (hl0 := rfl) (hd := d_Trip_load_84) (K := ?_)
  refine g_Trip_9 hG (hi := by omega) (hd := d_Trip_load_85) (K := ?_)
  refine r_iload_n hG (hl0 := rfl) (hd := d_Trip_load_88) (K := ?_)
  refine r_dup2 hG (hd := d_Trip_load_89) (K := ?_)
  first | refine a_16 hG (hd := d_Trip_load_90) (hz := rfl) (hj := by omega) (hi := by omega) (K := ?_) | refine a_17 hG (hd := d_Trip_load_90) (hz := rfl) (hj := by omega) (hi := by omega) (K := ?_) | refine a_18 hG (hd := d_Trip_load_90) (hz := rfl) (hj := by omega) (hi := by omega) (K := ?_) | refine a_19 hG (hd := d_Trip_load_90) (hz := rfl) (hj := by omega) (hi := by omega) (K := ?_) | refine a_4 hG (hd := d_Trip_load_90) (hz := rfl) (hj := by omega) (hi := by omega) (K := ?_) | refine a_5 hG (hd := d_Trip_load_90) (hz := rfl) (hj := by omega) (hi := by omega) (K := ?_) | refine a_21 hG (hd := d_Trip_load_90) (hz := rfl) (hj := by omega) (hi := by omega) (K := ?_) | refine a_23 hG (hd := d_Trip_load_90) (hz := rfl) (hj := by omega) (hi := by omega) (K := ?_) | refine a_24 hG (hd := d_Trip_load_90) (hz := rfl) (hj := by omega) (hi := by omega) (K := ?_)
  refine r_iload hG (hl0 := rfl) (hd := d_Trip_load_91) (K := ?_)
  first | refine r_iadd hG (hd := d_Trip_load_93) (K := ?_) | refine r_iaddr hG (hd := d_Trip_load_93) (K := ?_)
  first | refine s_16 hG (hd := d_Trip_load_94) (hz := rfl) (hj := by omega) (hi := by omega) (K := ?_) | refine s_17 hG (hd := d_Trip_load_94) (hz := rfl) (hj := by omega) (hi := by omega) (K := ?_) | refine s_18 hG (hd := d_Trip_load_94) (hz := rfl) (hj := by omega) (hi := by omega) (K := ?_) | refine s_19 hG (hd := d_Trip_load_94) (hz := rfl) (hj := by omega) (hi := by omega) (K := ?_) | refine s_4 hG (hd := d_Trip_load_94) (hz := rfl) (hj := by omega) (hi := by omega) (K := ?_) | refine s_5 hG (hd := d_Trip_load_94) (hz := rfl) (hj := by omega) (hi := by omega) (K := ?_) | refine s_21 hG (hd := d_Trip_load_94) (hz := rfl) (hj := by omega) (hi := by omega) (K := ?_) | refine s_23 hG (hd := d_Trip_load_94) (hz := rfl) (hj := by omega) (hi := by omega) (K := ?_) | refine s_24 hG (hd := d_Trip_load_94) (hz := rfl) (hj := by omega) (hi := by omega) (K := ?_)
  refine r_aload_n hG (hl0 := rfl) (hd := d_Trip_load_95) (K := ?_)
  refine g_Trip_15 hG (hi := by omega) (hd := d_Trip_load_96) (K := ?_)
  refine r_iload_n hG (hl0 := rfl) (hd := d_Trip_load_99) (K := ?_)
  refine r_dup2 hG (hd := d_Trip_load_100) (K := ?_)
  first | refine a_16 hG (hd := d_Trip_load_101) (hz := rfl) (hj := by omega) (hi := by omega) (K := ?_) | refine a_17 hG (hd := d_Trip_load_101) (hz := rfl) (hj := by omega) (hi := by omega) (K := ?_) | refine a_18 hG (hd := d_Trip_load_101) (hz := rfl) (hj := by omega) (hi := by omega) (K := ?_) | refine a_19 hG (hd := d_Trip_load_101) (hz := rfl) (hj := by omega) (hi := by omega) (K := ?_) | refine a_4 hG (hd := d_Trip_load_101) (hz := rfl) (hj := by omega) (hi := by omega) (K := ?_) | refine a_5 hG (hd := d_Trip_load_101) (hz := rfl) (hj := by omega) (hi := by omega) (K := ?_) | refine a_21 hG (hd := d_Trip_load_101) (hz := rfl) (hj := by omega) (hi := by omega) (K := ?_) | refine a_23 hG (hd := d_Trip_load_101) (hz := rfl) (hj := by omega) (hi := by omega) (K := ?_) | refine a_24 hG (hd := d_Trip_load_101) (hz := rfl) (hj := by omega) (hi := by omega) (K := ?_)
  refine r_iload hG (hl0 := rfl) (hd := d_Trip_load_102) (K := ?_)
  first | refine r_iadd hG (hd := d_Trip_load_104) (K := ?_) | refine r_iaddr hG (hd := d_Trip_load_104) (K := ?_)
  first | refine s_16 hG (hd := d_Trip_load_105) (hz := rfl) (hj := by omega) (hi := by omega) (K := ?_) | refine s_17 hG (hd := d_Trip_load_105) (hz := rfl) (hj := by omega) (hi := by omega) (K := ?_) | refine s_18 hG (hd := d_Trip_load_105) (hz := rfl) (hj := by omega) (hi := by omega) (K := ?_) | refine s_19 hG (hd := d_Trip_load_105) (hz := rfl) (hj := by omega) (hi := by omega) (K := ?_) | refine s_4 hG (hd := d_Trip_load_105) (hz := rfl) (hj := by omega) (hi := by omega) (K := ?_) | refine s_5 hG (hd := d_Trip_load_105) (hz := rfl) (hj := by omega) (hi := by omega) (K := ?_) | refine s_21 hG (hd := d_Trip_load_105) (hz := rfl) (hj := by omega) (hi := by omega) (K := ?_) | refine s_23 hG (hd := d_Trip_load_105) (hz := rfl) (hj := by omega) (hi := by omega) (K := ?_) | refine s_24 hG (hd := d_Trip_load_105) (hz := rfl) (hj := by omega) (hi := by omega) (K := ?_)
  refine r_aload_n hG (hl0 := rfl) (hd := d_Trip_load_106) (K := ?_)
  refine r_dup hG (hd := d_Trip_load_107) (K := ?_)
  refine g_Trip_58 hG (hi := by omega) (hd := d_Trip_load_108) (K := ?_)
  refine r_iload hG (hl0 := rfl) (hd := d_Trip_load_111) (K := ?_)
  refine r_iload hG (hl0 := rfl) (hd := d_Trip_load_113) (K := ?_)
  first | refine r_iadd hG (hd := d_Trip_load_115) (K := ?_) | refine r_iaddr hG (hd := d_Trip_load_115) (K := ?_)
  first | refine r_iadd hG (hd := d_Trip_load_116) (K := ?_) | refine r_iaddr hG (hd := d_Trip_load_116) (K := ?_)
  refine p_Trip_58 hG (hi := by omega) (hd := d_Trip_load_117) (K := ?_)
  refine r_vret hG d_Trip_load_120 ⟨(Nat.le_of_ble_eq_true rfl), (Nat.le_of_ble_eq_true rfl)⟩ ?_
  exact ⟨rfl, rfl⟩
theorem load_okT {S : St} {c t j k t' : Nat} (hj : j < 3) (hT : okT S t) (hC : okC S c k) (h' : okT S t') : okT (loadS S c t j k) t' := by
  have hl := load_in hj hT hC
  have hb := hT.2.2 j hj
  refine ⟨?_, ?_, fun j' hj' => ?_⟩
  · rw [loadS_of S c t j k (by decide)]; exact h'.1
  · rw [loadS_of S c t j k (by decide)]; exact h'.2.1
  · have hb' := h'.2.2 j' hj'
    rw [loadS_16, loadS_17, loadS_of S c t j k (by decide)]
    split
    · next e => obtain ⟨rfl, rfl⟩ := e; omega
    · exact hb'
theorem load_okC {S : St} {c t j k c' k' : Nat} (hj : j < 3) (hT : okT S t) (hC : okC S c k) (h' : okC S c' k') : okC (loadS S c t j k) c' k' := by
  have hl := load_in hj hT hC
  unfold okC at *
  rw [loadS_34, loadS_35]
  split
  · next e => obtain ⟨rfl, rfl⟩ := e; omega
  · exact h'
theorem okL_of {S S' : St} {i : Nat} (h : okL S i) (h20 : S' 20 = S 20) (h25 : S' 25 = S 25) (h26 : S' 26 = S 26) (h27 : S' 27 = S 27) : okL S' i := by
  unfold okL at *
  rw [h20, h25, h26, h27]
  exact h
theorem load_okL {S : St} {c t j k i : Nat} (h : okL S i) : okL (loadS S c t j k) i := okL_of h (loadS_of S c t j k (by decide)) (loadS_of S c t j k (by decide)) (loadS_of S c t j k (by decide)) (loadS_of S c t j k (by decide))
def leftE (S : St) (t i : Nat) : Int := S 16 t (S 25 i 0).toNat + S 17 t (S 25 i 0).toNat + (S 16 t (S 25 i 1).toNat + S 17 t (S 25 i 1).toNat)
def load2 (S : St) (c t i : Nat) : St := loadS (loadS S c t (S 25 i 0).toNat 0) c t (S 25 i 1).toNat 1
def emptyS (S : St) (c t i : Nat) : St :=
  let S3 := sU (load2 S c t i) 31 c 0 (load2 S c t i 31 c 0 + 1)
  if 0 < leftE (load2 S c t i) t i then sU S3 32 c 0 (S3 32 c 0 + 1) else S3
theorem load2_of (S : St) (c t i : Nat) {f : Nat} (h : f ≠ 16 ∧ f ≠ 17 ∧ f ≠ 18 ∧ f ≠ 34 ∧ f ≠ 35 ∧ f ≠ 33) : load2 S c t i f = S f := by
  unfold load2
  rw [loadS_of _ _ _ _ _ h, loadS_of _ _ _ _ _ h]
theorem okL_str {S : St} {i c : Nat} (h : okL S i) (hc : c < 2) : (S 25 i c).toNat < 3 ∧ S 25 i c = (((S 25 i c).toNat : Nat) : Int) := by
  obtain ⟨j, h1, h2⟩ := h.2.1 c hc
  rw [h2, Int.toNat_natCast]
  exact ⟨h1, rfl⟩
theorem load2_ok {S : St} {c t i t' : Nat} (hT : okT S t) (hL : okL S i) (hC : okC S c 0 ∧ okC S c 1) (h' : okT S t') : okT (load2 S c t i) t' := by
  have h0 := (okL_str hL (show 0 < 2 by decide)).1
  have h1 := (okL_str hL (show 1 < 2 by decide)).1
  exact load_okT h1 (load_okT h0 hT hC.1 hT) (load_okC h0 hT hC.1 hC.2) (load_okT h0 hT hC.1 h')
theorem load2_okC {S : St} {c t i : Nat} (hT : okT S t) (hL : okL S i) (hC : okC S c 0 ∧ okC S c 1) : okC (load2 S c t i) c 0 ∧ okC (load2 S c t i) c 1 := by
  have h0 := (okL_str hL (show 0 < 2 by decide)).1
  have h1 := (okL_str hL (show 1 < 2 by decide)).1
  have hT1 := load_okT h0 hT hC.1 hT
  have hC1 := load_okC h0 hT hC.1 hC.2
  exact ⟨load_okC h1 hT1 hC1 (load_okC h0 hT hC.1 hC.1), load_okC h1 hT1 hC1 hC1⟩
theorem ct_empty {Γ : Gm} {S : St} {c t i : Nat} (hc : c < 4) (ht : t < 12) (hi : i < 3) (hT : okT S t) (hL : okL S i) (hC : okC S c 0 ∧ okC S c 1) : CT Γ y_Trip_empty b_Trip_empty 5 ((none : Option FieldType)) (rmx 3 0 0) [rf Γ 3 c, rf Γ 15 t, rf Γ 20 i] S (dX none (emptyS S c t i)) := by
  obtain ⟨h0, e0⟩ := okL_str hL (show 0 < 2 by decide)
  obtain ⟨h1, e1⟩ := okL_str hL (show 1 < 2 by decide)
  have hT1 := load_okT h0 hT hC.1 hT
  have hC1 := load_okC h0 hT hC.1 hC.2
  have hT2 := load2_ok hT hL hC hT
  have f1 : loadS S c t (S 25 i 0).toNat 0 25 i 1 = S 25 i 1 := by rw [loadS_of S c t _ 0 (by decide)]
  have g0 : load2 S c t i 25 i 0 = S 25 i 0 := by rw [load2_of S c t i (by decide)]
  have g1 : load2 S c t i 25 i 1 = S 25 i 1 := by rw [load2_of S c t i (by decide)]
  have hl0 := hT2.2.2 _ h0
  have hl1 := hT2.2.2 _ h1
  refine CT.of (by first | exact plainFor_of_name (by rfl) | decide +kernel) (Nat.le_of_ble_eq_true rfl) ?_
  intro G hG
  show G (0, 0) 0 [(0, rf Γ 3 c), (1, rf Γ 15 t), (2, rf Γ 20 i)] [] _
  refine r_iconst hG (hd := d_Trip_empty_0) (K := ?_)
  refine r_istore_n hG (hd := d_Trip_empty_1) (K := ?_)
  refine r_iconst hG (hd := d_Trip_empty_2) (K := ?_)
  refine r_istore hG (hd := d_Trip_empty_3) (K := ?_)
  refine r_iload hG (hl0 := rfl) (hd := d_Trip_empty_5) (K := ?_)
  refine r_iconst hG (hd := d_Trip_empty_7) (K := ?_)
  refine r_icmp_ge hG (hd := d_Trip_empty_8) (kt := fun hh => absurd hh (by omega)) (kf := fun _ => ?_)
  refine r_aload_n hG (hl0 := rfl) (hd := d_Trip_empty_11) (K := ?_)
  refine r_aload_n hG (hl0 := rfl) (hd := d_Trip_empty_12) (K := ?_)
  refine r_aload_n hG (hl0 := rfl) (hd := d_Trip_empty_13) (K := ?_)
  refine g_Trip_61 hG (hi := by omega) (hd := d_Trip_empty_14) (K := ?_)
  refine r_iload hG (hl0 := rfl) (hd := d_Trip_empty_17) (K := ?_)
  refine a_21 hG (j := 0) (hd := d_Trip_empty_19) (hz := rfl) (hj := by omega) (hi := hi) (K := ?_)
  refine r_iload hG (hl0 := rfl) (hd := d_Trip_empty_20) (K := ?_)
  rw [e0]
  refine cVv hG w_Trip_64 d_Trip_empty_22 (ct_load hc ht h0 (show 0 < 2 by decide) hT hC.1) (by decide) (by show _ < 4; omega) rc_3 rfl rfl ⟨(Nat.le_of_ble_eq_true rfl), (Nat.le_of_ble_eq_true rfl)⟩ ⟨(Nat.le_of_ble_eq_true rfl), (Nat.le_of_ble_eq_true rfl)⟩ (Nat.le_of_ble_eq_true rfl) ?_
  refine r_iinc hG (hl0 := rfl) (hd := d_Trip_empty_25) (K := ?_)
  refine r_goto hG (hd := d_Trip_empty_28) (K := ?_)
  refine r_iload hG (hl0 := rfl) (hd := d_Trip_empty_5) (K := ?_)
  refine r_iconst hG (hd := d_Trip_empty_7) (K := ?_)
  refine r_icmp_ge hG (hd := d_Trip_empty_8) (kt := fun hh => absurd hh (by omega)) (kf := fun _ => ?_)
  refine r_aload_n hG (hl0 := rfl) (hd := d_Trip_empty_11) (K := ?_)
  refine r_aload_n hG (hl0 := rfl) (hd := d_Trip_empty_12) (K := ?_)
  refine r_aload_n hG (hl0 := rfl) (hd := d_Trip_empty_13) (K := ?_)
  refine g_Trip_61 hG (hi := by omega) (hd := d_Trip_empty_14) (K := ?_)
  refine r_iload hG (hl0 := rfl) (hd := d_Trip_empty_17) (K := ?_)
  refine a_21 hG (j := 1) (hd := d_Trip_empty_19) (hz := rfl) (hj := by omega) (hi := hi) (K := ?_)
  refine r_iload hG (hl0 := rfl) (hd := d_Trip_empty_20) (K := ?_)
  rw [f1, e1]
  refine cVv hG w_Trip_64 d_Trip_empty_22 (ct_load hc ht h1 (show 1 < 2 by decide) hT1 hC1) (by decide) (by show _ < 4; omega) rc_3 rfl rfl ⟨(Nat.le_of_ble_eq_true rfl), (Nat.le_of_ble_eq_true rfl)⟩ ⟨(Nat.le_of_ble_eq_true rfl), (Nat.le_of_ble_eq_true rfl)⟩ (Nat.le_of_ble_eq_true rfl) ?_
  show G (0, 0) 25 _ [] (load2 S c t i)
  refine r_iinc hG (hl0 := rfl) (hd := d_Trip_empty_25) (K := ?_)
  refine r_goto hG (hd := d_Trip_empty_28) (K := ?_)
  refine r_iload hG (hl0 := rfl) (hd := d_Trip_empty_5) (K := ?_)
  refine r_iconst hG (hd := d_Trip_empty_7) (K := ?_)
  refine r_icmp_ge hG (hd := d_Trip_empty_8) (kt := fun _ => ?_) (kf := fun hh => absurd hh (by omega))
  refine r_iconst hG (hd := d_Trip_empty_31) (K := ?_)
  refine r_istore hG (hd := d_Trip_empty_32) (K := ?_)
  refine r_iload hG (hl0 := rfl) (hd := d_Trip_empty_34) (K := ?_)
  refine r_iconst hG (hd := d_Trip_empty_36) (K := ?_)
  refine r_icmp_ge hG (hd := d_Trip_empty_37) (kt := fun hh => absurd hh (by omega)) (kf := fun _ => ?_)
  refine r_iload_n hG (hl0 := rfl) (hd := d_Trip_empty_40) (K := ?_)
  refine r_aload_n hG (hl0 := rfl) (hd := d_Trip_empty_41) (K := ?_)
  refine r_aload_n hG (hl0 := rfl) (hd := d_Trip_empty_42) (K := ?_)
  refine g_Trip_61 hG (hi := by omega) (hd := d_Trip_empty_43) (K := ?_)
  refine r_iload hG (hl0 := rfl) (hd := d_Trip_empty_46) (K := ?_)
  refine a_21 hG (j := 0) (hd := d_Trip_empty_48) (hz := rfl) (hj := by omega) (hi := hi) (K := ?_)
  rw [g0, e0]
  refine cVx hG w_Trip_68 d_Trip_empty_49 (ct_kilosIn ht h0) (by decide) (by show _ < 12; omega) rc_15 rfl rfl ⟨(Nat.le_of_ble_eq_true rfl), (Nat.le_of_ble_eq_true rfl)⟩ ⟨(Nat.le_of_ble_eq_true rfl), (Nat.le_of_ble_eq_true rfl)⟩ (Nat.le_of_ble_eq_true rfl) ?_
  first | refine r_iadd hG (hd := d_Trip_empty_52) (K := ?_) | refine r_iaddr hG (hd := d_Trip_empty_52) (K := ?_)
  refine r_istore_n hG (hd := d_Trip_empty_53) (K := ?_)
  refine r_iinc hG (hl0 := rfl) (hd := d_Trip_empty_54) (K := ?_)
  refine r_goto hG (hd := d_Trip_empty_57) (K := ?_)
  refine r_iload hG (hl0 := rfl) (hd := d_Trip_empty_34) (K := ?_)
  refine r_iconst hG (hd := d_Trip_empty_36) (K := ?_)
  refine r_icmp_ge hG (hd := d_Trip_empty_37) (kt := fun hh => absurd hh (by omega)) (kf := fun _ => ?_)
  refine r_iload_n hG (hl0 := rfl) (hd := d_Trip_empty_40) (K := ?_)
  refine r_aload_n hG (hl0 := rfl) (hd := d_Trip_empty_41) (K := ?_)
  refine r_aload_n hG (hl0 := rfl) (hd := d_Trip_empty_42) (K := ?_)
  refine g_Trip_61 hG (hi := by omega) (hd := d_Trip_empty_43) (K := ?_)
  refine r_iload hG (hl0 := rfl) (hd := d_Trip_empty_46) (K := ?_)
  refine a_21 hG (j := 1) (hd := d_Trip_empty_48) (hz := rfl) (hj := by omega) (hi := hi) (K := ?_)
  rw [g1, e1]
  refine cVx hG w_Trip_68 d_Trip_empty_49 (ct_kilosIn ht h1) (by decide) (by show _ < 12; omega) rc_15 rfl rfl ⟨(Nat.le_of_ble_eq_true rfl), (Nat.le_of_ble_eq_true rfl)⟩ ⟨(Nat.le_of_ble_eq_true rfl), (Nat.le_of_ble_eq_true rfl)⟩ (Nat.le_of_ble_eq_true rfl) ?_
  first | refine r_iadd hG (hd := d_Trip_empty_52) (K := ?_) | refine r_iaddr hG (hd := d_Trip_empty_52) (K := ?_)
  refine r_istore_n hG (hd := d_Trip_empty_53) (K := ?_)
  refine r_iinc hG (hl0 := rfl) (hd := d_Trip_empty_54) (K := ?_)
  refine r_goto hG (hd := d_Trip_empty_57) (K := ?_)
  refine r_iload hG (hl0 := rfl) (hd := d_Trip_empty_34) (K := ?_)
  refine r_iconst hG (hd := d_Trip_empty_36) (K := ?_)
  refine r_icmp_ge hG (hd := d_Trip_empty_37) (kt := fun _ => ?_) (kf := fun hh => absurd hh (by omega))
  refine r_aload_n hG (hl0 := rfl) (hd := d_Trip_empty_60) (K := ?_)
  refine r_dup hG (hd := d_Trip_empty_61) (K := ?_)
  refine g_Trip_52 hG (hi := by omega) (hd := d_Trip_empty_62) (K := ?_)
  refine r_iconst hG (hd := d_Trip_empty_65) (K := ?_)
  first | refine r_iadd hG (hd := d_Trip_empty_66) (K := ?_) | refine r_iaddr hG (hd := d_Trip_empty_66) (K := ?_)
  refine p_Trip_52 hG (hi := by omega) (hd := d_Trip_empty_67) (K := ?_)
  refine r_iload_n hG (hl0 := rfl) (hd := d_Trip_empty_70) (K := ?_)
  refine r_if_le hG (hd := d_Trip_empty_71) (kt := fun h => ?_) (kf := fun h => ?_)
  · refine r_vret hG d_Trip_empty_84 ⟨(Nat.le_of_ble_eq_true rfl), (Nat.le_of_ble_eq_true rfl)⟩ ?_
    refine ⟨rfl, (if_neg ?_).symm⟩
    unfold leftE
    rw [g0, g1]
    omega
  · refine r_aload_n hG (hl0 := rfl) (hd := d_Trip_empty_74) (K := ?_)
    refine r_dup hG (hd := d_Trip_empty_75) (K := ?_)
    refine g_Trip_55 hG (hi := by omega) (hd := d_Trip_empty_76) (K := ?_)
    refine r_iconst hG (hd := d_Trip_empty_79) (K := ?_)
    first | refine r_iadd hG (hd := d_Trip_empty_80) (K := ?_) | refine r_iaddr hG (hd := d_Trip_empty_80) (K := ?_)
    refine p_Trip_55 hG (hi := by omega) (hd := d_Trip_empty_81) (K := ?_)
    refine r_vret hG d_Trip_empty_84 ⟨(Nat.le_of_ble_eq_true rfl), (Nat.le_of_ble_eq_true rfl)⟩ ?_
    refine ⟨rfl, (if_pos ?_).symm⟩
    unfold leftE
    rw [g0, g1]
    omega
end
section
/-! THE DRIVE -/
theorem sU_f {S : St} {f i j : Nat} {v : Int} {f' : Nat} (h : f' ≠ f) : sU S f i j v f' = S f' := by
  funext a b
  exact sU_nf h
theorem beginS_of (S : St) (c : Nat) {f : Nat} (h : f ≠ 34 ∧ f ≠ 35 ∧ f ≠ 31 ∧ f ≠ 32 ∧ f ≠ 33) : beginS S c f = S f := by
  unfold beginS
  rw [sU_f h.2.2.2.2, sU_f h.2.2.2.1, sU_f h.2.2.1, sU_f h.2.1, sU_f h.1, sU_f h.2.1, sU_f h.1]
theorem okT_of {S S' : St} {t : Nat} (h : okT S t) (h10 : S' 10 = S 10) (h11 : S' 11 = S 11) (h15 : S' 15 = S 15) (h16 : S' 16 = S 16) (h17 : S' 17 = S 17) : okT S' t := by
  unfold okT at *
  rw [h10, h11, h15, h16, h17]
  exact h
theorem okC_of {S S' : St} {c k : Nat} (h : okC S c k) (h34 : S' 34 = S 34) (h35 : S' 35 = S 35) : okC S' c k := by
  unfold okC at *
  rw [h34, h35]
  exact h
theorem emptyS_of (S : St) (c t i : Nat) {f : Nat} (h : f ≠ 16 ∧ f ≠ 17 ∧ f ≠ 18 ∧ f ≠ 34 ∧ f ≠ 35 ∧ f ≠ 33) (h2 : f ≠ 31 ∧ f ≠ 32) : emptyS S c t i f = S f := by
  simp only [emptyS]
  split
  · rw [sU_f h2.2, sU_f h2.1, load2_of S c t i h]
  · rw [sU_f h2.1, load2_of S c t i h]
theorem emptyS_load (S : St) (c t i : Nat) {f : Nat} (h2 : f ≠ 31 ∧ f ≠ 32) : emptyS S c t i f = load2 S c t i f := by
  simp only [emptyS]
  split
  · rw [sU_f h2.2, sU_f h2.1]
  · rw [sU_f h2.1]
theorem emptyS_okT {S : St} {c t i t' : Nat} (hT : okT S t) (hL : okL S i) (hC : okC S c 0 ∧ okC S c 1) (h' : okT S t') : okT (emptyS S c t i) t' := by
  have e : ∀ {f : Nat}, f ≠ 31 ∧ f ≠ 32 → emptyS S c t i f = load2 S c t i f := fun h => emptyS_load S c t i h
  exact okT_of (load2_ok hT hL hC h') (e (by decide)) (e (by decide)) (e (by decide)) (e (by decide)) (e (by decide))
theorem emptyS_okC {S : St} {c t i : Nat} (hT : okT S t) (hL : okL S i) (hC : okC S c 0 ∧ okC S c 1) : okC (emptyS S c t i) c 0 ∧ okC (emptyS S c t i) c 1 := by
  have e : ∀ {f : Nat}, f ≠ 31 ∧ f ≠ 32 → emptyS S c t i f = load2 S c t i f := fun h => emptyS_load S c t i h
  have h := load2_okC hT hL hC
  exact ⟨okC_of h.1 (e (by decide)) (e (by decide)), okC_of h.2 (e (by decide)) (e (by decide))⟩
theorem emptyS_okL {S : St} {c t i i' : Nat} (h : okL S i') : okL (emptyS S c t i) i' := okL_of h (emptyS_of S c t i (by decide) (by decide)) (emptyS_of S c t i (by decide) (by decide)) (emptyS_of S c t i (by decide) (by decide)) (emptyS_of S c t i (by decide) (by decide))
def iabs (a : Int) : Int := if 0 ≤ a then a else -a
/-- the street at a place of a round, among the streets w -/
def rst (S : St) (w i d q : Nat) : Nat := 2 * (S 27 (7 * i + d) q).toNat + w
/-- the walk of a round: the state, where the lorry is, its clock -/
def drv (w c i d : Nat) : Nat → Nat → St → Int → Int → St × Int × Int
  | 0, _, S, at', ck => (S, at', ck)
  | m + 1, q, S, at', ck =>
    if ck + iabs (S 10 (rst S w i d q) 0 - at') + 2 + S 10 (rst S w i d q) 0 ≤ S 20 i 0 then
      drv w c i d m (q + 1) (emptyS S c (rst S w i d q) i) (S 10 (rst S w i d q) 0) (ck + iabs (S 10 (rst S w i d q) 0 - at') + 2)
    else (S, at', ck)
def drvE (S : St) (w c i d : Nat) : St × Int × Int := drv w c i d (S 26 i d).toNat 0 (beginS S c) 0 0
def driveS (S : St) (w c i d : Nat) : St := sU (drvE S w c i d).1 30 c 0 ((drvE S w c i d).2.2 + (drvE S w c i d).2.1)
theorem ct_drive {Γ : Gm} {S : St} {w c i d : Nat} (hw : w < 2) (hc : c < 4) (hi : i < 3) (hd : d < 7) (hT : ∀ t, t < 12 → okT S t) (hL : okL S i) : CT Γ y_Trip_drive b_Trip_drive 9 ((none : Option FieldType)) (rmx 4 0 0) [rf Γ 3 c, rf Γ 20 i, nt d, rf Γ 1 w] S (dX none (driveS S w c i d)) := by
  have hb : ∀ {f : Nat}, f ≠ 34 ∧ f ≠ 35 ∧ f ≠ 31 ∧ f ≠ 32 ∧ f ≠ 33 → beginS S c f = S f := fun h => beginS_of S c h
  have hT0 : ∀ t, t < 12 → okT (beginS S c) t := fun t ht => okT_of (hT t ht) (hb (by decide)) (hb (by decide)) (hb (by decide)) (hb (by decide)) (hb (by decide))
  have hL0 : okL (beginS S c) i := okL_of hL (hb (by decide)) (hb (by decide)) (hb (by decide)) (hb (by decide))
  have hC0 : okC (beginS S c) c 0 ∧ okC (beginS S c) c 1 := by simp [okC, beginS, sU]
  obtain ⟨n, hn6, hn⟩ := hL.2.2.1 d hd
  have e26 : beginS S c 26 = S 26 := hb (by decide)
  refine CT.of (by first | exact plainFor_of_name (by rfl) | decide +kernel) (Nat.le_of_ble_eq_true rfl) ?_
  intro G hG
  show G (0, 0) 0 [(0, rf Γ 3 c), (1, rf Γ 20 i), (2, nt d), (3, rf Γ 1 w)] [] _
  refine r_aload_n hG (hl0 := rfl) (hd := d_Trip_drive_0) (K := ?_)
  refine cVv hG w_Trip_18 d_Trip_drive_1 (ct_tripBegin hc) (by decide) (by show _ < 4; omega) rc_3 rfl rfl ⟨(Nat.le_of_ble_eq_true rfl), (Nat.le_of_ble_eq_true rfl)⟩ ⟨(Nat.le_of_ble_eq_true rfl), (Nat.le_of_ble_eq_true rfl)⟩ (Nat.le_of_ble_eq_true rfl) ?_
  refine r_iconst hG (hd := d_Trip_drive_4) (K := ?_)
  refine r_istore hG (hd := d_Trip_drive_5) (K := ?_)
  refine r_iconst hG (hd := d_Trip_drive_7) (K := ?_)
  refine r_istore hG (hd := d_Trip_drive_8) (K := ?_)
  refine r_iconst hG (hd := d_Trip_drive_10) (K := ?_)
  refine r_istore hG (hd := d_Trip_drive_11) (K := ?_)
  have loop : ∀ m q : Nat, q + m = n → ∀ (S1 : St) (at' ck : Int), (∀ t, t < 12 → okT S1 t) → okL S1 i → okC S1 c 0 ∧ okC S1 c 1 → S1 26 = S 26 → (0 ≤ at' ∧ at' ≤ 30) → (0 ≤ ck ∧ ck ≤ 120) →
      G (0, 0) 97 [(0, rf Γ 3 c), (4, nt (drv w c i d m q S1 at' ck).2.1), (5, nt (drv w c i d m q S1 at' ck).2.2)] [] (drv w c i d m q S1 at' ck).1 →
      G (0, 0) 13 [(0, rf Γ 3 c), (1, rf Γ 20 i), (2, nt d), (3, rf Γ 1 w), (4, nt at'), (5, nt ck), (6, nt q)] [] S1 := by
    intro m
    induction m with
    | zero =>
      intro q hq S1 at' ck h1 h2 h3 h4 h5 h6 K
      have hlen : S1 26 i d = (q : Int) := by rw [h4, hn]; omega
      refine r_iload hG (hl0 := rfl) (hd := d_Trip_drive_13) (K := ?_)
      refine r_aload_n hG (hl0 := rfl) (hd := d_Trip_drive_15) (K := ?_)
      refine g_Trip_21 hG (hi := by omega) (hd := d_Trip_drive_16) (K := ?_)
      refine r_iload_n hG (hl0 := rfl) (hd := d_Trip_drive_19) (K := ?_)
      first | refine a_16 hG (hd := d_Trip_drive_20) (hz := rfl) (hj := by omega) (hi := by omega) (K := ?_) | refine a_17 hG (hd := d_Trip_drive_20) (hz := rfl) (hj := by omega) (hi := by omega) (K := ?_) | refine a_18 hG (hd := d_Trip_drive_20) (hz := rfl) (hj := by omega) (hi := by omega) (K := ?_) | refine a_19 hG (hd := d_Trip_drive_20) (hz := rfl) (hj := by omega) (hi := by omega) (K := ?_) | refine a_4 hG (hd := d_Trip_drive_20) (hz := rfl) (hj := by omega) (hi := by omega) (K := ?_) | refine a_5 hG (hd := d_Trip_drive_20) (hz := rfl) (hj := by omega) (hi := by omega) (K := ?_) | refine a_21 hG (hd := d_Trip_drive_20) (hz := rfl) (hj := by omega) (hi := by omega) (K := ?_) | refine a_23 hG (hd := d_Trip_drive_20) (hz := rfl) (hj := by omega) (hi := by omega) (K := ?_) | refine a_24 hG (hd := d_Trip_drive_20) (hz := rfl) (hj := by omega) (hi := by omega) (K := ?_)
      refine r_icmp_ge hG (hd := d_Trip_drive_21) (kt := fun _ => ?_) (kf := fun hh => absurd hh (by omega))
      exact r_sb hG (K) ⟨rfl, rfl, rfl, trivial⟩
    | succ m ih =>
      intro q hq S1 at' ck h1 h2 h3 h4 h5 h6 K
      have hlen : S1 26 i d = (n : Int) := by rw [h4, hn]
      obtain ⟨e, he, hee⟩ := h2.2.2.2 d hd q (by omega)
      have hr : rst S1 w i d q = 2 * e + w := by unfold rst; rw [hee, Int.toNat_natCast]
      have hte := h1 (2 * e + w) (by omega)
      have hsh := h2.1
      have hpl := hte.1
      have hab : 0 ≤ iabs (S1 10 (2 * e + w) 0 - at') ∧ iabs (S1 10 (2 * e + w) 0 - at') ≤ 30 := by unfold iabs; split <;> omega
      refine r_iload hG (hl0 := rfl) (hd := d_Trip_drive_13) (K := ?_)
      refine r_aload_n hG (hl0 := rfl) (hd := d_Trip_drive_15) (K := ?_)
      refine g_Trip_21 hG (hi := by omega) (hd := d_Trip_drive_16) (K := ?_)
      refine r_iload_n hG (hl0 := rfl) (hd := d_Trip_drive_19) (K := ?_)
      first | refine a_16 hG (hd := d_Trip_drive_20) (hz := rfl) (hj := by omega) (hi := by omega) (K := ?_) | refine a_17 hG (hd := d_Trip_drive_20) (hz := rfl) (hj := by omega) (hi := by omega) (K := ?_) | refine a_18 hG (hd := d_Trip_drive_20) (hz := rfl) (hj := by omega) (hi := by omega) (K := ?_) | refine a_19 hG (hd := d_Trip_drive_20) (hz := rfl) (hj := by omega) (hi := by omega) (K := ?_) | refine a_4 hG (hd := d_Trip_drive_20) (hz := rfl) (hj := by omega) (hi := by omega) (K := ?_) | refine a_5 hG (hd := d_Trip_drive_20) (hz := rfl) (hj := by omega) (hi := by omega) (K := ?_) | refine a_21 hG (hd := d_Trip_drive_20) (hz := rfl) (hj := by omega) (hi := by omega) (K := ?_) | refine a_23 hG (hd := d_Trip_drive_20) (hz := rfl) (hj := by omega) (hi := by omega) (K := ?_) | refine a_24 hG (hd := d_Trip_drive_20) (hz := rfl) (hj := by omega) (hi := by omega) (K := ?_)
      refine r_icmp_ge hG (hd := d_Trip_drive_21) (kt := fun hh => absurd hh (by omega)) (kf := fun _ => ?_)
      refine r_aload_n hG (hl0 := rfl) (hd := d_Trip_drive_24) (K := ?_)
      refine r_aload_n hG (hl0 := rfl) (hd := d_Trip_drive_25) (K := ?_)
      refine g_Trip_26 hG (hi := by omega) (hd := d_Trip_drive_26) (K := ?_)
      refine r_iload_n hG (hl0 := rfl) (hd := d_Trip_drive_29) (K := ?_)
      first | refine a_1 hG (hd := d_Trip_drive_30) (hz := rfl) (hj := by omega) (hi := by omega) (K := ?_) | refine a_2 hG (hd := d_Trip_drive_30) (hz := rfl) (hj := by omega) (hi := by omega) (K := ?_) | refine a_10 hG (hd := d_Trip_drive_30) (hz := rfl) (hj := by omega) (hi := by omega) (K := ?_) | refine r_aald22 hG (hd := d_Trip_drive_30) (hz := rfl) (hj := by omega) (hi := by omega) (K := ?_)
      refine r_iload hG (hl0 := rfl) (hd := d_Trip_drive_31) (K := ?_)
      first | refine a_16 hG (hd := d_Trip_drive_33) (hz := rfl) (hj := by omega) (hi := by omega) (K := ?_) | refine a_17 hG (hd := d_Trip_drive_33) (hz := rfl) (hj := by omega) (hi := by omega) (K := ?_) | refine a_18 hG (hd := d_Trip_drive_33) (hz := rfl) (hj := by omega) (hi := by omega) (K := ?_) | refine a_19 hG (hd := d_Trip_drive_33) (hz := rfl) (hj := by omega) (hi := by omega) (K := ?_) | refine a_4 hG (hd := d_Trip_drive_33) (hz := rfl) (hj := by omega) (hi := by omega) (K := ?_) | refine a_5 hG (hd := d_Trip_drive_33) (hz := rfl) (hj := by omega) (hi := by omega) (K := ?_) | refine a_21 hG (hd := d_Trip_drive_33) (hz := rfl) (hj := by omega) (hi := by omega) (K := ?_) | refine a_23 hG (hd := d_Trip_drive_33) (hz := rfl) (hj := by omega) (hi := by omega) (K := ?_) | refine a_24 hG (hd := d_Trip_drive_33) (hz := rfl) (hj := by omega) (hi := by omega) (K := ?_)
      rw [hee]
      first | refine a_1 hG (hd := d_Trip_drive_34) (hz := rfl) (hj := by omega) (hi := by omega) (K := ?_) | refine a_2 hG (hd := d_Trip_drive_34) (hz := rfl) (hj := by omega) (hi := by omega) (K := ?_) | refine a_10 hG (hd := d_Trip_drive_34) (hz := rfl) (hj := by omega) (hi := by omega) (K := ?_) | refine r_aald22 hG (hd := d_Trip_drive_34) (hz := rfl) (hj := by omega) (hi := by omega) (K := ?_)
      refine r_astore hG (hd := d_Trip_drive_35) (K := ?_)
      refine r_iload hG (hl0 := rfl) (hd := d_Trip_drive_37) (K := ?_)
      refine r_aload hG (hl0 := rfl) (hd := d_Trip_drive_39) (K := ?_)
      refine g_Trip_30 hG (hi := by omega) (hd := d_Trip_drive_41) (K := ?_)
      refine r_iload hG (hl0 := rfl) (hd := d_Trip_drive_44) (K := ?_)
      first | refine r_isub hG (hd := d_Trip_drive_46) (K := ?_) | refine r_isubr hG (hd := d_Trip_drive_46) (K := ?_)
      refine r_mabs hG w_Trip_36 d_Trip_drive_47 ⟨(Nat.le_of_ble_eq_true rfl), (Nat.le_of_ble_eq_true rfl)⟩ ⟨(Nat.le_of_ble_eq_true rfl), (Nat.le_of_ble_eq_true rfl)⟩ (by first | omega | (simp [sU]; omega)) ?_
      first | refine r_iadd hG (hd := d_Trip_drive_50) (K := ?_) | refine r_iaddr hG (hd := d_Trip_drive_50) (K := ?_)
      refine r_iconst hG (hd := d_Trip_drive_51) (K := ?_)
      first | refine r_iadd hG (hd := d_Trip_drive_52) (K := ?_) | refine r_iaddr hG (hd := d_Trip_drive_52) (K := ?_)
      refine r_istore hG (hd := d_Trip_drive_53) (K := ?_)
      refine r_iload hG (hl0 := rfl) (hd := d_Trip_drive_55) (K := ?_)
      refine r_aload hG (hl0 := rfl) (hd := d_Trip_drive_57) (K := ?_)
      refine g_Trip_30 hG (hi := by omega) (hd := d_Trip_drive_59) (K := ?_)
      first | refine r_iadd hG (hd := d_Trip_drive_62) (K := ?_) | refine r_iaddr hG (hd := d_Trip_drive_62) (K := ?_)
      refine r_aload_n hG (hl0 := rfl) (hd := d_Trip_drive_63) (K := ?_)
      refine g_Trip_42 hG (hi := by omega) (hd := d_Trip_drive_64) (K := ?_)
      refine r_icmp_le hG (hd := d_Trip_drive_67) (kt := fun h => ?_) (kf := fun h => ?_)
      · have K := K
        rw [drv, hr, if_pos (by have h := h; unfold iabs; omega)] at K
        have hle : ck + iabs (S1 10 (2 * e + w) 0 - at') + 2 + S1 10 (2 * e + w) 0 ≤ S1 20 i 0 := by have h := h; unfold iabs; omega
        refine r_iload hG (hl0 := rfl) (hd := d_Trip_drive_73) (K := ?_)
        refine r_istore hG (hd := d_Trip_drive_75) (K := ?_)
        refine r_aload hG (hl0 := rfl) (hd := d_Trip_drive_77) (K := ?_)
        refine g_Trip_30 hG (hi := by omega) (hd := d_Trip_drive_79) (K := ?_)
        refine r_istore hG (hd := d_Trip_drive_82) (K := ?_)
        refine r_aload_n hG (hl0 := rfl) (hd := d_Trip_drive_84) (K := ?_)
        refine r_aload hG (hl0 := rfl) (hd := d_Trip_drive_85) (K := ?_)
        refine r_aload_n hG (hl0 := rfl) (hd := d_Trip_drive_87) (K := ?_)
        refine cVv hG w_Trip_45 d_Trip_drive_88 (ct_empty hc (by omega) hi hte h2 h3) (by decide) (by show _ < 4; omega) rc_3 rfl rfl ⟨(Nat.le_of_ble_eq_true rfl), (Nat.le_of_ble_eq_true rfl)⟩ ⟨(Nat.le_of_ble_eq_true rfl), (Nat.le_of_ble_eq_true rfl)⟩ (Nat.le_of_ble_eq_true rfl) ?_
        refine r_iinc hG (hl0 := rfl) (hd := d_Trip_drive_91) (K := ?_)
        refine r_goto hG (hd := d_Trip_drive_94) (K := ?_)
        have q2 := ih (q + 1) (by omega) (emptyS S1 c (2 * e + w) i) (S1 10 (2 * e + w) 0) (ck + iabs (S1 10 (2 * e + w) 0 - at') + 2) (fun t ht => emptyS_okT hte h2 h3 (h1 t ht)) (emptyS_okL h2) (emptyS_okC hte h2 h3) (by rw [emptyS_of S1 c _ i (by decide) (by decide), h4]) hpl (by omega) K
        exact r_sb hG (q2) ⟨rfl, rfl, rfl, rfl, rfl, rfl, rfl, trivial⟩
      · have K := K
        rw [drv, hr, if_neg (by have h := h; unfold iabs; omega)] at K
        refine r_goto hG (hd := d_Trip_drive_70) (K := ?_)
        exact r_sb hG (K) ⟨rfl, rfl, rfl, trivial⟩
  have l := loop n 0 (by omega) (beginS S c) 0 0 hT0 hL0 hC0 e26 (by omega) (by omega) ?_
  exact r_sb hG (l) ⟨rfl, rfl, rfl, rfl, rfl, rfl, rfl, trivial⟩
  have e : drv w c i d n 0 (beginS S c) 0 0 = drvE S w c i d := by unfold drvE; rw [hn, Int.toNat_natCast]
  rw [e]
  refine r_aload_n hG (hl0 := rfl) (hd := d_Trip_drive_97) (K := ?_)
  refine r_iload hG (hl0 := rfl) (hd := d_Trip_drive_98) (K := ?_)
  refine r_iload hG (hl0 := rfl) (hd := d_Trip_drive_100) (K := ?_)
  first | refine r_iadd hG (hd := d_Trip_drive_102) (K := ?_) | refine r_iaddr hG (hd := d_Trip_drive_102) (K := ?_)
  refine p_Trip_49 hG (hi := by omega) (hd := d_Trip_drive_103) (K := ?_)
  refine r_vret hG d_Trip_drive_106 ⟨(Nat.le_of_ble_eq_true rfl), (Nat.le_of_ble_eq_true rfl)⟩ ?_
  exact ⟨rfl, rfl⟩
end
section
/-! THE SEARCH, and the JDK's bitCount and floorMod -/
section SX
variable {Γ : Gm} {R : Room} {cc : ByteArray} {nL : Nat} {own : String} {ret : Option FieldType} {post : Option Value → St → Prop} {mc ms : Nat} {G : Nat × Nat → Nat → List (Nat × Value) → List Value → St → Prop} {cs : Nat × Nat} {pc n : Nat} {ls : List (Nat × Value)} {st stk : List Value} {S S1 : St}
theorem r_ifr_ge (hG : IsG Γ R cc nL own ret post mc ms G) {x : Int32} {tgt : Nat} (hd : Dj cc pc (.ifCond .ge) tgt n) (h : 0 ≤ x) (K : G cs tgt ls st S) : G cs pc ls (.int x :: st) S := by
  obtain ⟨p, e, s, m, args, below, meth, c, Q, hx, hb, hml, hown, hts, hK, hB, hX, hr, rfl⟩ := hG
  obtain ⟨off, hd, ht, rfl⟩ := hd
  intro H locs la hP hD hS hl
  exact lv_if_ge hx hb hd ht (fun _ => K H locs la hP hD hS hl) (fun q => absurd h q)
theorem r_top (hG : IsG Γ R cc nL own ret post mc ms G) {x : Int32} {z : Int} (h : x = iI z) (K : G cs pc ls (nt z :: st) S) : G cs pc ls (.int x :: st) S := by
  subst h; exact K
end SX
theorem xor_nn {x y : Int32} (hx : 0 ≤ x.toInt) (hy : 0 ≤ y.toInt) : 0 ≤ (x ^^^ y).toInt := by
  have h1 : x.toBitVec.msb = false := by
    rw [BitVec.msb_eq_toInt]
    exact decide_eq_false (by have : x.toBitVec.toInt = x.toInt := rfl; omega)
  have h2 : y.toBitVec.msb = false := by
    rw [BitVec.msb_eq_toInt]
    exact decide_eq_false (by have : y.toBitVec.toInt = y.toInt := rfl; omega)
  have h3 : (x ^^^ y).toBitVec.msb = false := by
    rw [Int32.toBitVec_xor, BitVec.msb_xor, h1, h2]
    rfl
  rw [BitVec.msb_eq_toInt] at h3
  have h4 := of_decide_eq_false h3
  have : (x ^^^ y).toBitVec.toInt = (x ^^^ y).toInt := rfl
  omega
theorem ct_floorMod {Γ : Gm} {S : St} {a : Int} (ha : 0 ≤ a ∧ a < 2147483648) : CT Γ y_Math_floorMod b_Math_floorMod 3 ((some FieldType.int)) (rmx 1 0 0) [nt a, nt 7] S (dX (some (nt (a % 7))) S) := by
  have h : (0 : Int32) ≤ iI a ^^^ iI 7 := by
    rw [Int32.le_iff_toInt_le]
    exact xor_nn (by rw [iI_toInt (by omega)]; omega) (by rw [iI_toInt (by omega)]; omega)
  refine CT.of (by first | exact plainFor_of_name (by rfl) | decide +kernel) (Nat.le_of_ble_eq_true rfl) ?_
  intro G hG
  show G (0, 0) 0 [(0, nt a), (1, nt 7)] [] _
  refine r_iload_n hG (hl0 := rfl) (hd := d_Math_floorMod_0) (K := ?_)
  refine r_iload_n hG (hl0 := rfl) (hd := d_Math_floorMod_1) (K := ?_)
  refine r_irem hG (hr0 := by first | omega | (simp [sU]; omega)) (hd := d_Math_floorMod_2) (K := ?_)
  refine r_istore_n hG (hd := d_Math_floorMod_3) (K := ?_)
  refine r_iload_n hG (hl0 := rfl) (hd := d_Math_floorMod_4) (K := ?_)
  refine r_iload_n hG (hl0 := rfl) (hd := d_Math_floorMod_5) (K := ?_)
  refine r_ixor hG (hd := d_Math_floorMod_6) (K := ?_)
  refine r_ifr_ge hG (hd := d_Math_floorMod_7) (h := h) (K := ?_)
  refine r_iload_n hG (hl0 := rfl) (hd := d_Math_floorMod_18) (K := ?_)
  refine r_iret hG d_Math_floorMod_19 ⟨(Nat.le_of_ble_eq_true rfl), (Nat.le_of_ble_eq_true rfl)⟩ ?_
  exact ⟨rfl, rfl⟩
def bI (s i : Nat) : Int := if s.testBit i then 1 else 0
def bc (s : Nat) : Int := bI s 0 + bI s 1 + bI s 2 + bI s 3 + bI s 4 + bI s 5
def clr (s i : Nat) : Nat := if s.testBit i then s - 2 ^ i else s
theorem bit_in : ∀ s, s < 64 → ∀ i, i < 6 → (iI ((s : Nat) : Int) >>> (iI ((i : Nat) : Int) &&& 31)) &&& iI 1 = iI (bI s i) := by decide +kernel
theorem bit_clr : ∀ s, s < 64 → ∀ i, i < 6 → iI ((s : Nat) : Int) &&& ((iI 1 <<< (iI ((i : Nat) : Int) &&& 31)) ^^^ iI (-1)) = iI ((clr s i : Nat) : Int) := by decide +kernel
theorem bit_two : ∀ n, n < 7 → iI 1 <<< (iI ((n : Nat) : Int) &&& 31) = iI ((2 ^ n : Nat) : Int) := by decide +kernel
theorem bI_01 (s i : Nat) : bI s i = 0 ∨ bI s i = 1 := by unfold bI; split <;> simp
theorem clr_lt {s i : Nat} (h : s < 64) : clr s i < 64 := by
  have := Nat.sub_le s (2 ^ i)
  unfold clr
  split <;> omega
def ushr (x k : Int32) : Int32 := (x.toUInt32 >>> (k.toUInt32 &&& Int32.toUInt32 31)).toInt32
def bcA (x : Int32) : Int32 := x - (ushr x (iI 1) &&& iI 1431655765)
def bcB (x : Int32) : Int32 := (x &&& iI 858993459) + (ushr x (iI 2) &&& iI 858993459)
def bcC (x : Int32) : Int32 := (x + ushr x (iI 4)) &&& iI 252645135
def bcD (x : Int32) : Int32 := x + ushr x (iI 8)
def bcE (x : Int32) : Int32 := x + ushr x (iI 16)
theorem bc_ok : ∀ s, s < 64 → bcE (bcD (bcC (bcB (bcA (iI ((s : Nat) : Int)))))) &&& iI 63 = iI (bc s) := by decide +kernel
theorem ct_bitCount {Γ : Gm} {S : St} {s : Nat} (hs : s < 64) : CT Γ y_Integer_bitCount b_Integer_bitCount 1 ((some FieldType.int)) (rmx 1 0 0) [nt s] S (dX (some (nt (bc s))) S) := by
  refine CT.of (by first | exact plainFor_of_name (by rfl) | decide +kernel) (Nat.le_of_ble_eq_true rfl) ?_
  intro G hG
  show G (0, 0) 0 [(0, nt s)] [] _
  refine r_iload_n hG (hl0 := rfl) (hd := d_Integer_bitCount_0) (K := ?_)
  refine r_iload_n hG (hl0 := rfl) (hd := d_Integer_bitCount_1) (K := ?_)
  refine r_iconst hG (hd := d_Integer_bitCount_2) (K := ?_)
  refine r_iushr hG (hd := d_Integer_bitCount_3) (K := ?_)
  refine r_ldcw hG (k := 1431655765) (hc := (m_T3 (i := 148) (by decide +kernel) (by decide +kernel))) (hv := rfl) (hd := d_Integer_bitCount_4) (K := ?_)
  refine r_iand hG (hd := d_Integer_bitCount_7) (K := ?_)
  first | refine r_isub hG (hd := d_Integer_bitCount_8) (K := ?_) | refine r_isubr hG (hd := d_Integer_bitCount_8) (K := ?_)
  refine r_istore_n hG (hd := d_Integer_bitCount_9) (K := ?_)
  refine r_iload_n hG (hl0 := rfl) (hd := d_Integer_bitCount_10) (K := ?_)
  refine r_ldcw hG (k := 858993459) (hc := (m_T3 (i := 149) (by decide +kernel) (by decide +kernel))) (hv := rfl) (hd := d_Integer_bitCount_11) (K := ?_)
  refine r_iand hG (hd := d_Integer_bitCount_14) (K := ?_)
  refine r_iload_n hG (hl0 := rfl) (hd := d_Integer_bitCount_15) (K := ?_)
  refine r_iconst hG (hd := d_Integer_bitCount_16) (K := ?_)
  refine r_iushr hG (hd := d_Integer_bitCount_17) (K := ?_)
  refine r_ldcw hG (k := 858993459) (hc := (m_T3 (i := 149) (by decide +kernel) (by decide +kernel))) (hv := rfl) (hd := d_Integer_bitCount_18) (K := ?_)
  refine r_iand hG (hd := d_Integer_bitCount_21) (K := ?_)
  first | refine r_iadd hG (hd := d_Integer_bitCount_22) (K := ?_) | refine r_iaddr hG (hd := d_Integer_bitCount_22) (K := ?_)
  refine r_istore_n hG (hd := d_Integer_bitCount_23) (K := ?_)
  refine r_iload_n hG (hl0 := rfl) (hd := d_Integer_bitCount_24) (K := ?_)
  refine r_iload_n hG (hl0 := rfl) (hd := d_Integer_bitCount_25) (K := ?_)
  refine r_iconst hG (hd := d_Integer_bitCount_26) (K := ?_)
  refine r_iushr hG (hd := d_Integer_bitCount_27) (K := ?_)
  first | refine r_iadd hG (hd := d_Integer_bitCount_28) (K := ?_) | refine r_iaddr hG (hd := d_Integer_bitCount_28) (K := ?_)
  refine r_ldcw hG (k := 252645135) (hc := (m_T3 (i := 150) (by decide +kernel) (by decide +kernel))) (hv := rfl) (hd := d_Integer_bitCount_29) (K := ?_)
  refine r_iand hG (hd := d_Integer_bitCount_32) (K := ?_)
  refine r_istore_n hG (hd := d_Integer_bitCount_33) (K := ?_)
  refine r_iload_n hG (hl0 := rfl) (hd := d_Integer_bitCount_34) (K := ?_)
  refine r_iload_n hG (hl0 := rfl) (hd := d_Integer_bitCount_35) (K := ?_)
  refine r_bipush hG (hd := d_Integer_bitCount_36) (K := ?_)
  refine r_iushr hG (hd := d_Integer_bitCount_38) (K := ?_)
  first | refine r_iadd hG (hd := d_Integer_bitCount_39) (K := ?_) | refine r_iaddr hG (hd := d_Integer_bitCount_39) (K := ?_)
  refine r_istore_n hG (hd := d_Integer_bitCount_40) (K := ?_)
  refine r_iload_n hG (hl0 := rfl) (hd := d_Integer_bitCount_41) (K := ?_)
  refine r_iload_n hG (hl0 := rfl) (hd := d_Integer_bitCount_42) (K := ?_)
  refine r_bipush hG (hd := d_Integer_bitCount_43) (K := ?_)
  refine r_iushr hG (hd := d_Integer_bitCount_45) (K := ?_)
  first | refine r_iadd hG (hd := d_Integer_bitCount_46) (K := ?_) | refine r_iaddr hG (hd := d_Integer_bitCount_46) (K := ?_)
  refine r_istore_n hG (hd := d_Integer_bitCount_47) (K := ?_)
  refine r_iload_n hG (hl0 := rfl) (hd := d_Integer_bitCount_48) (K := ?_)
  refine r_bipush hG (hd := d_Integer_bitCount_49) (K := ?_)
  refine r_iand hG (hd := d_Integer_bitCount_51) (K := ?_)
  refine r_iret hG d_Integer_bitCount_52 ⟨(Nat.le_of_ble_eq_true rfl), (Nat.le_of_ble_eq_true rfl)⟩ ?_
  exact ⟨congrArg (fun x => some (Value.int x)) (bc_ok s hs), rfl⟩
theorem ct_isIn {Γ : Gm} {S : St} {s i : Nat} (hs : s < 64) (hi : i < 6) : CT Γ y_Search_isIn b_Search_isIn 2 ((some FieldType.boolean)) (rmx 1 0 0) [nt i, nt s] S (dX (some (nt (bI s i))) S) := by
  refine CT.of (by first | exact plainFor_of_name (by rfl) | decide +kernel) (Nat.le_of_ble_eq_true rfl) ?_
  intro G hG
  show G (0, 0) 0 [(0, nt i), (1, nt s)] [] _
  refine r_iload_n hG (hl0 := rfl) (hd := d_Search_isIn_0) (K := ?_)
  refine r_iload_n hG (hl0 := rfl) (hd := d_Search_isIn_1) (K := ?_)
  refine r_ishr hG (hd := d_Search_isIn_2) (K := ?_)
  refine r_iconst hG (hd := d_Search_isIn_3) (K := ?_)
  refine r_iand hG (hd := d_Search_isIn_4) (K := ?_)
  refine r_top hG (bit_in s hs i hi) ?_
  have h01 := bI_01 s i
  refine r_iconst hG (hd := d_Search_isIn_5) (K := ?_)
  refine r_icmp_ne hG (hd := d_Search_isIn_6) (kt := fun h => ?_) (kf := fun h => ?_)
  · refine r_iconst hG (hd := d_Search_isIn_13) (K := ?_)
    refine r_zret hG d_Search_isIn_14 ⟨(Nat.le_of_ble_eq_true rfl), (Nat.le_of_ble_eq_true rfl)⟩ (by first | exact Or.inl rfl | exact Or.inr rfl | omega) ?_
    exact ⟨by rw [show bI s i = 0 by omega], rfl⟩
  · refine r_iconst hG (hd := d_Search_isIn_9) (K := ?_)
    refine r_goto hG (hd := d_Search_isIn_10) (K := ?_)
    refine r_zret hG d_Search_isIn_14 ⟨(Nat.le_of_ble_eq_true rfl), (Nat.le_of_ble_eq_true rfl)⟩ (by first | exact Or.inl rfl | exact Or.inr rfl | omega) ?_
    exact ⟨by rw [show bI s i = 1 by omega], rfl⟩
theorem bI_t {s i : Nat} (h : bI s i ≠ 0) : s.testBit i = true := by
  unfold bI at h
  split at h
  · assumption
  · exact absurd rfl h
theorem bI_f {s i : Nat} (h : bI s i = 0) : s.testBit i = false := by
  unfold bI at h
  split at h
  · exact absurd h (by decide)
  · next e => exact Bool.not_eq_true _ ▸ e
/-- the farthest of a and the places of a set -/
def farN (S : St) (w s : Nat) (a : Int) : Nat → Int
  | 0 => a
  | k + 1 => if s.testBit k then max (farN S w s a k) (S 10 (2 * k + w) 0) else farN S w s a k
def wayH (S : St) (w : Nat) (a : Int) (s : Nat) : Int := 2 * farN S w s a 6 - a
theorem farN_in {S : St} {w s : Nat} {a : Int} (hw : w < 2) (hT : ∀ t, t < 12 → okT S t) (ha : 0 ≤ a ∧ a ≤ 30) : ∀ k, k ≤ 6 → a ≤ farN S w s a k ∧ farN S w s a k ≤ 30
  | 0, _ => ⟨Int.le_refl _, ha.2⟩
  | k + 1, hk => by
    have ih := farN_in (s := s) hw hT ha k (by omega)
    have hp := (hT (2 * k + w) (by omega)).1
    simp only [farN]
    split <;> omega
theorem ct_wayHome {Γ : Gm} {S : St} {w s : Nat} {a : Int} (hw : w < 2) (hs : s < 64) (hT : ∀ t, t < 12 → okT S t) (ha : 0 ≤ a ∧ a ≤ 30) : CT Γ y_Search_wayHome b_Search_wayHome 5 ((some FieldType.int)) (rmx 2 0 0) [nt a, nt s, rf Γ 1 w] S (dX (some (nt (wayH S w a s))) S) := by
  refine CT.of (by first | exact plainFor_of_name (by rfl) | decide +kernel) (Nat.le_of_ble_eq_true rfl) ?_
  intro G hG
  show G (0, 0) 0 [(0, nt a), (1, nt s), (2, rf Γ 1 w)] [] _
  refine r_iload_n hG (hl0 := rfl) (hd := d_Search_wayHome_0) (K := ?_)
  refine r_istore_n hG (hd := d_Search_wayHome_1) (K := ?_)
  refine r_iconst hG (hd := d_Search_wayHome_2) (K := ?_)
  refine r_istore hG (hd := d_Search_wayHome_3) (K := ?_)
  have loop : ∀ m k : Nat, k + m = 6 → G (0, 0) 5 [(0, nt a), (1, nt s), (2, rf Γ 1 w), (3, nt (farN S w s a k)), (4, nt k)] [] S := by
    intro m
    induction m with
    | zero =>
      intro k hk
      have hk6 : k = 6 := by omega
      subst hk6
      refine r_iload hG (hl0 := rfl) (hd := d_Search_wayHome_5) (K := ?_)
      refine r_aload_n hG (hl0 := rfl) (hd := d_Search_wayHome_7) (K := ?_)
      refine r_alen1 hG (hi := by omega) (hd := d_Search_wayHome_8) (K := ?_)
      refine r_icmp_ge hG (hd := d_Search_wayHome_9) (kt := fun _ => ?_) (kf := fun hh => absurd hh (by omega))
      refine r_iconst hG (hd := d_Search_wayHome_39) (K := ?_)
      refine r_iload_n hG (hl0 := rfl) (hd := d_Search_wayHome_40) (K := ?_)
      refine r_imul hG (hd := d_Search_wayHome_41) (K := ?_)
      refine r_iload_n hG (hl0 := rfl) (hd := d_Search_wayHome_42) (K := ?_)
      first | refine r_isub hG (hd := d_Search_wayHome_43) (K := ?_) | refine r_isubr hG (hd := d_Search_wayHome_43) (K := ?_)
      refine r_iret hG d_Search_wayHome_44 ⟨(Nat.le_of_ble_eq_true rfl), (Nat.le_of_ble_eq_true rfl)⟩ ?_
      exact ⟨rfl, rfl⟩
    | succ m ih =>
      intro k hk
      have hf := farN_in (s := s) hw hT ha k (by omega)
      have hp := (hT (2 * k + w) (by omega)).1
      have h01 := bI_01 s k
      refine r_iload hG (hl0 := rfl) (hd := d_Search_wayHome_5) (K := ?_)
      refine r_aload_n hG (hl0 := rfl) (hd := d_Search_wayHome_7) (K := ?_)
      refine r_alen1 hG (hi := by omega) (hd := d_Search_wayHome_8) (K := ?_)
      refine r_icmp_ge hG (hd := d_Search_wayHome_9) (kt := fun hh => absurd hh (by omega)) (kf := fun _ => ?_)
      refine r_iload hG (hl0 := rfl) (hd := d_Search_wayHome_12) (K := ?_)
      refine r_iload_n hG (hl0 := rfl) (hd := d_Search_wayHome_14) (K := ?_)
      refine cSx hG w_Search_48 d_Search_wayHome_15 (ct_isIn hs (show k < 6 by omega)) rfl rfl ⟨(Nat.le_of_ble_eq_true rfl), (Nat.le_of_ble_eq_true rfl)⟩ ⟨(Nat.le_of_ble_eq_true rfl), (Nat.le_of_ble_eq_true rfl)⟩ (Nat.le_of_ble_eq_true rfl) ?_
      refine r_if_eq hG (hd := d_Search_wayHome_18) (kt := fun h => ?_) (kf := fun h => ?_)
      · have e : farN S w s a (k + 1) = farN S w s a k := by simp [farN, bI_f h]
        have q := ih (k + 1) (by omega)
        rw [e] at q
        refine r_iinc hG (hl0 := rfl) (hd := d_Search_wayHome_33) (K := ?_)
        refine r_goto hG (hd := d_Search_wayHome_36) (K := ?_)
        exact r_sb hG (q) ⟨rfl, rfl, rfl, rfl, rfl, trivial⟩
      · have e : farN S w s a (k + 1) = max (farN S w s a k) (S 10 (2 * k + w) 0) := by simp [farN, bI_t h]
        have q := ih (k + 1) (by omega)
        rw [e] at q
        refine r_iload_n hG (hl0 := rfl) (hd := d_Search_wayHome_21) (K := ?_)
        refine r_aload_n hG (hl0 := rfl) (hd := d_Search_wayHome_22) (K := ?_)
        refine r_iload hG (hl0 := rfl) (hd := d_Search_wayHome_23) (K := ?_)
        first | refine a_1 hG (hd := d_Search_wayHome_25) (hz := rfl) (hj := by omega) (hi := by omega) (K := ?_) | refine a_2 hG (hd := d_Search_wayHome_25) (hz := rfl) (hj := by omega) (hi := by omega) (K := ?_) | refine a_10 hG (hd := d_Search_wayHome_25) (hz := rfl) (hj := by omega) (hi := by omega) (K := ?_) | refine r_aald22 hG (hd := d_Search_wayHome_25) (hz := rfl) (hj := by omega) (hi := by omega) (K := ?_)
        refine g_Search_67 hG (hi := by omega) (hd := d_Search_wayHome_26) (K := ?_)
        refine r_mmax hG w_Search_70 d_Search_wayHome_29 ⟨(Nat.le_of_ble_eq_true rfl), (Nat.le_of_ble_eq_true rfl)⟩ ⟨(Nat.le_of_ble_eq_true rfl), (Nat.le_of_ble_eq_true rfl)⟩ (by first | omega | (simp [sU]; omega)) ?_
        refine r_istore_n hG (hd := d_Search_wayHome_32) (K := ?_)
        refine r_iinc hG (hl0 := rfl) (hd := d_Search_wayHome_33) (K := ?_)
        refine r_goto hG (hd := d_Search_wayHome_36) (K := ?_)
        exact r_sb hG (q) ⟨rfl, rfl, rfl, rfl, rfl, trivial⟩
  exact r_sb hG (loop 6 0 (by omega)) ⟨rfl, rfl, rfl, rfl, rfl, trivial⟩
def sumK (S : St) (w s j : Nat) : Nat → Int
  | 0 => 0
  | k + 1 => if s.testBit k then sumK S w s j k + (S 16 (2 * k + w) j + S 17 (2 * k + w) j) else sumK S w s j k
theorem sumK_in {S : St} {w s j : Nat} (hw : w < 2) (hj : j < 3) (hT : ∀ t, t < 12 → okT S t) : ∀ k, k ≤ 6 → 0 ≤ sumK S w s j k ∧ sumK S w s j k ≤ 60 * k
  | 0, _ => ⟨Int.le_refl _, Int.le_refl _⟩
  | k + 1, hk => by
    have ih := sumK_in (s := s) hw hj hT k (by omega)
    have hp := (hT (2 * k + w) (by omega)).2.2 j hj
    simp only [sumK]
    split <;> omega
def kilosS (S : St) (w i s : Nat) : Int :=
  if S 25 i 0 = S 25 i 1 then min (sumK S w s (S 25 i 0).toNat 6) 300 else min (sumK S w s (S 25 i 0).toNat 6) 150 + min (sumK S w s (S 25 i 1).toNat 6) 150
theorem ct_kilosOf {Γ : Gm} {S : St} {w i s : Nat} (hw : w < 2) (hi : i < 3) (hs : s < 64) (hT : ∀ t, t < 12 → okT S t) (hL : okL S i) : CT Γ y_Search_kilosOf b_Search_kilosOf 6 ((some FieldType.int)) (rmx 2 0 0) [rf Γ 20 i, nt s, rf Γ 1 w] S (dX (some (nt (kilosS S w i s))) S) := by
  obtain ⟨h0, e0⟩ := okL_str hL (show 0 < 2 by decide)
  obtain ⟨h1, e1⟩ := okL_str hL (show 1 < 2 by decide)
  have s0 := sumK_in (s := s) hw h0 hT 6 (by decide)
  have s1 := sumK_in (s := s) hw h1 hT 6 (by decide)
  unfold kilosS
  generalize hj0 : (S 25 i 0).toNat = j0 at h0 e0 s0 ⊢
  generalize hj1 : (S 25 i 1).toNat = j1 at h1 e1 s1 ⊢
  refine CT.of (by first | exact plainFor_of_name (by rfl) | decide +kernel) (Nat.le_of_ble_eq_true rfl) ?_
  intro G hG
  show G (0, 0) 0 [(0, rf Γ 20 i), (1, nt s), (2, rf Γ 1 w)] [] _
  refine r_iconst hG (hd := d_Search_kilosOf_0) (K := ?_)
  refine r_istore_n hG (hd := d_Search_kilosOf_1) (K := ?_)
  refine r_iconst hG (hd := d_Search_kilosOf_2) (K := ?_)
  refine r_istore hG (hd := d_Search_kilosOf_3) (K := ?_)
  refine r_iconst hG (hd := d_Search_kilosOf_5) (K := ?_)
  refine r_istore hG (hd := d_Search_kilosOf_6) (K := ?_)
  have loop : ∀ m k : Nat, k + m = 6 → G (0, 0) 8 [(0, rf Γ 20 i), (1, nt s), (2, rf Γ 1 w), (3, nt (sumK S w s j0 k)), (4, nt (sumK S w s j1 k)), (5, nt k)] [] S := by
    intro m
    induction m with
    | zero =>
      intro k hk
      have hk6 : k = 6 := by omega
      subst hk6
      refine r_iload hG (hl0 := rfl) (hd := d_Search_kilosOf_8) (K := ?_)
      refine r_aload_n hG (hl0 := rfl) (hd := d_Search_kilosOf_10) (K := ?_)
      refine r_alen1 hG (hi := by omega) (hd := d_Search_kilosOf_11) (K := ?_)
      refine r_icmp_ge hG (hd := d_Search_kilosOf_12) (kt := fun _ => ?_) (kf := fun hh => absurd hh (by omega))
      refine r_aload_n hG (hl0 := rfl) (hd := d_Search_kilosOf_64) (K := ?_)
      refine g_Search_52 hG (hi := by omega) (hd := d_Search_kilosOf_65) (K := ?_)
      refine r_iconst hG (hd := d_Search_kilosOf_68) (K := ?_)
      refine a_21 hG (j := 0) (hd := d_Search_kilosOf_69) (hz := rfl) (hj := by omega) (hi := hi) (K := ?_)
      refine r_aload_n hG (hl0 := rfl) (hd := d_Search_kilosOf_70) (K := ?_)
      refine g_Search_52 hG (hi := by omega) (hd := d_Search_kilosOf_71) (K := ?_)
      refine r_iconst hG (hd := d_Search_kilosOf_74) (K := ?_)
      refine a_21 hG (j := 1) (hd := d_Search_kilosOf_75) (hz := rfl) (hj := by omega) (hi := hi) (K := ?_)
      refine r_icmp_ne hG (hd := d_Search_kilosOf_76) (kt := fun h => ?_) (kf := fun h => ?_)
      · refine r_iload_n hG (hl0 := rfl) (hd := d_Search_kilosOf_87) (K := ?_)
        refine r_sipush hG (hd := d_Search_kilosOf_88) (K := ?_)
        refine r_mmin hG w_Search_61 d_Search_kilosOf_91 ⟨(Nat.le_of_ble_eq_true rfl), (Nat.le_of_ble_eq_true rfl)⟩ ⟨(Nat.le_of_ble_eq_true rfl), (Nat.le_of_ble_eq_true rfl)⟩ (by first | omega | (simp [sU]; omega)) ?_
        refine r_iload hG (hl0 := rfl) (hd := d_Search_kilosOf_94) (K := ?_)
        refine r_sipush hG (hd := d_Search_kilosOf_96) (K := ?_)
        refine r_mmin hG w_Search_61 d_Search_kilosOf_99 ⟨(Nat.le_of_ble_eq_true rfl), (Nat.le_of_ble_eq_true rfl)⟩ ⟨(Nat.le_of_ble_eq_true rfl), (Nat.le_of_ble_eq_true rfl)⟩ (by first | omega | (simp [sU]; omega)) ?_
        first | refine r_iadd hG (hd := d_Search_kilosOf_102) (K := ?_) | refine r_iaddr hG (hd := d_Search_kilosOf_102) (K := ?_)
        refine r_iret hG d_Search_kilosOf_103 ⟨(Nat.le_of_ble_eq_true rfl), (Nat.le_of_ble_eq_true rfl)⟩ ?_
        exact ⟨by rw [if_neg h]; rfl, rfl⟩
      · refine r_iload_n hG (hl0 := rfl) (hd := d_Search_kilosOf_79) (K := ?_)
        refine r_sipush hG (hd := d_Search_kilosOf_80) (K := ?_)
        refine r_mmin hG w_Search_61 d_Search_kilosOf_83 ⟨(Nat.le_of_ble_eq_true rfl), (Nat.le_of_ble_eq_true rfl)⟩ ⟨(Nat.le_of_ble_eq_true rfl), (Nat.le_of_ble_eq_true rfl)⟩ (by first | omega | (simp [sU]; omega)) ?_
        refine r_iret hG d_Search_kilosOf_86 ⟨(Nat.le_of_ble_eq_true rfl), (Nat.le_of_ble_eq_true rfl)⟩ ?_
        exact ⟨by rw [if_pos h]; rfl, rfl⟩
    | succ m ih =>
      intro k hk
      have h01 := bI_01 s k
      refine r_iload hG (hl0 := rfl) (hd := d_Search_kilosOf_8) (K := ?_)
      refine r_aload_n hG (hl0 := rfl) (hd := d_Search_kilosOf_10) (K := ?_)
      refine r_alen1 hG (hi := by omega) (hd := d_Search_kilosOf_11) (K := ?_)
      refine r_icmp_ge hG (hd := d_Search_kilosOf_12) (kt := fun hh => absurd hh (by omega)) (kf := fun _ => ?_)
      refine r_iload hG (hl0 := rfl) (hd := d_Search_kilosOf_15) (K := ?_)
      refine r_iload_n hG (hl0 := rfl) (hd := d_Search_kilosOf_17) (K := ?_)
      refine cSx hG w_Search_48 d_Search_kilosOf_18 (ct_isIn hs (show k < 6 by omega)) rfl rfl ⟨(Nat.le_of_ble_eq_true rfl), (Nat.le_of_ble_eq_true rfl)⟩ ⟨(Nat.le_of_ble_eq_true rfl), (Nat.le_of_ble_eq_true rfl)⟩ (Nat.le_of_ble_eq_true rfl) ?_
      refine r_if_eq hG (hd := d_Search_kilosOf_21) (kt := fun h => ?_) (kf := fun h => ?_)
      · have e : ∀ j, sumK S w s j (k + 1) = sumK S w s j k := fun j => by simp [sumK, bI_f h]
        have q := ih (k + 1) (by omega)
        rw [e, e] at q
        refine r_iinc hG (hl0 := rfl) (hd := d_Search_kilosOf_58) (K := ?_)
        refine r_goto hG (hd := d_Search_kilosOf_61) (K := ?_)
        exact r_sb hG (q) ⟨rfl, rfl, rfl, rfl, rfl, rfl, trivial⟩
      · have e : ∀ j, sumK S w s j (k + 1) = sumK S w s j k + (S 16 (2 * k + w) j + S 17 (2 * k + w) j) := fun j => by simp [sumK, bI_t h]
        have q := ih (k + 1) (by omega)
        rw [e, e] at q
        refine r_iload_n hG (hl0 := rfl) (hd := d_Search_kilosOf_24) (K := ?_)
        refine r_aload_n hG (hl0 := rfl) (hd := d_Search_kilosOf_25) (K := ?_)
        refine r_iload hG (hl0 := rfl) (hd := d_Search_kilosOf_26) (K := ?_)
        first | refine a_1 hG (hd := d_Search_kilosOf_28) (hz := rfl) (hj := by omega) (hi := by omega) (K := ?_) | refine a_2 hG (hd := d_Search_kilosOf_28) (hz := rfl) (hj := by omega) (hi := by omega) (K := ?_) | refine a_10 hG (hd := d_Search_kilosOf_28) (hz := rfl) (hj := by omega) (hi := by omega) (K := ?_) | refine r_aald22 hG (hd := d_Search_kilosOf_28) (hz := rfl) (hj := by omega) (hi := by omega) (K := ?_)
        refine r_aload_n hG (hl0 := rfl) (hd := d_Search_kilosOf_29) (K := ?_)
        refine g_Search_52 hG (hi := by omega) (hd := d_Search_kilosOf_30) (K := ?_)
        refine r_iconst hG (hd := d_Search_kilosOf_33) (K := ?_)
        refine a_21 hG (j := 0) (hd := d_Search_kilosOf_34) (hz := rfl) (hj := by omega) (hi := hi) (K := ?_)
        rw [e0]
        refine cVx hG w_Search_56 d_Search_kilosOf_35 (ct_kilosIn (show 2 * k + w < 12 by omega) h0) (by decide) (by show _ < 12; omega) rc_15 rfl rfl ⟨(Nat.le_of_ble_eq_true rfl), (Nat.le_of_ble_eq_true rfl)⟩ ⟨(Nat.le_of_ble_eq_true rfl), (Nat.le_of_ble_eq_true rfl)⟩ (Nat.le_of_ble_eq_true rfl) ?_
        first | refine r_iadd hG (hd := d_Search_kilosOf_38) (K := ?_) | refine r_iaddr hG (hd := d_Search_kilosOf_38) (K := ?_)
        refine r_istore_n hG (hd := d_Search_kilosOf_39) (K := ?_)
        refine r_iload hG (hl0 := rfl) (hd := d_Search_kilosOf_40) (K := ?_)
        refine r_aload_n hG (hl0 := rfl) (hd := d_Search_kilosOf_42) (K := ?_)
        refine r_iload hG (hl0 := rfl) (hd := d_Search_kilosOf_43) (K := ?_)
        first | refine a_1 hG (hd := d_Search_kilosOf_45) (hz := rfl) (hj := by omega) (hi := by omega) (K := ?_) | refine a_2 hG (hd := d_Search_kilosOf_45) (hz := rfl) (hj := by omega) (hi := by omega) (K := ?_) | refine a_10 hG (hd := d_Search_kilosOf_45) (hz := rfl) (hj := by omega) (hi := by omega) (K := ?_) | refine r_aald22 hG (hd := d_Search_kilosOf_45) (hz := rfl) (hj := by omega) (hi := by omega) (K := ?_)
        refine r_aload_n hG (hl0 := rfl) (hd := d_Search_kilosOf_46) (K := ?_)
        refine g_Search_52 hG (hi := by omega) (hd := d_Search_kilosOf_47) (K := ?_)
        refine r_iconst hG (hd := d_Search_kilosOf_50) (K := ?_)
        refine a_21 hG (j := 1) (hd := d_Search_kilosOf_51) (hz := rfl) (hj := by omega) (hi := hi) (K := ?_)
        rw [e1]
        refine cVx hG w_Search_56 d_Search_kilosOf_52 (ct_kilosIn (show 2 * k + w < 12 by omega) h1) (by decide) (by show _ < 12; omega) rc_15 rfl rfl ⟨(Nat.le_of_ble_eq_true rfl), (Nat.le_of_ble_eq_true rfl)⟩ ⟨(Nat.le_of_ble_eq_true rfl), (Nat.le_of_ble_eq_true rfl)⟩ (Nat.le_of_ble_eq_true rfl) ?_
        first | refine r_iadd hG (hd := d_Search_kilosOf_55) (K := ?_) | refine r_iaddr hG (hd := d_Search_kilosOf_55) (K := ?_)
        refine r_istore hG (hd := d_Search_kilosOf_56) (K := ?_)
        refine r_iinc hG (hl0 := rfl) (hd := d_Search_kilosOf_58) (K := ?_)
        refine r_goto hG (hd := d_Search_kilosOf_61) (K := ?_)
        exact r_sb hG (q) ⟨rfl, rfl, rfl, rfl, rfl, rfl, trivial⟩
  exact r_sb hG (loop 6 0 (by omega)) ⟨rfl, rfl, rfl, rfl, rfl, rfl, trivial⟩
/-- the next street of a shortest order -/
def nxt (S : St) (w : Nat) (a : Int) (l : Nat) : Nat → Nat → Nat
  | 0, _ => 0
  | m + 1, k => if l.testBit k ∧ iabs (S 10 (2 * k + w) 0 - a) + wayH S w (S 10 (2 * k + w) 0) (clr l k) = wayH S w a l then k else nxt S w a l m (k + 1)
theorem wayH_in {S : St} {w s : Nat} {a : Int} (hw : w < 2) (hT : ∀ t, t < 12 → okT S t) (ha : 0 ≤ a ∧ a ≤ 30) : 0 ≤ wayH S w a s ∧ wayH S w a s ≤ 60 := by
  have h := farN_in (s := s) hw hT ha 6 (by decide)
  unfold wayH
  omega
theorem nxt_lt (S : St) (w : Nat) (a : Int) (l : Nat) : ∀ m k, k + m = 6 → nxt S w a l m k < 6
  | 0, _, _ => by simp [nxt]
  | m + 1, k, h => by
    simp only [nxt]
    split
    · omega
    · exact nxt_lt S w a l m (k + 1) (by omega)
theorem ct_smallestNext {Γ : Gm} {S : St} {w l : Nat} {a : Int} (hw : w < 2) (hl : l < 64) (hT : ∀ t, t < 12 → okT S t) (ha : 0 ≤ a ∧ a ≤ 30) : CT Γ y_Search_smallestNext b_Search_smallestNext 7 ((some FieldType.int)) (rmx 3 0 0) [nt a, nt l, rf Γ 1 w] S (dX (some (nt (nxt S w a l 6 0))) S) := by
  have hw0 := wayH_in (s := l) hw hT ha
  refine CT.of (by first | exact plainFor_of_name (by rfl) | decide +kernel) (Nat.le_of_ble_eq_true rfl) ?_
  intro G hG
  show G (0, 0) 0 [(0, nt a), (1, nt l), (2, rf Γ 1 w)] [] _
  refine r_iload_n hG (hl0 := rfl) (hd := d_Search_smallestNext_0) (K := ?_)
  refine r_iload_n hG (hl0 := rfl) (hd := d_Search_smallestNext_1) (K := ?_)
  refine r_aload_n hG (hl0 := rfl) (hd := d_Search_smallestNext_2) (K := ?_)
  refine cSx hG w_Search_21 d_Search_smallestNext_3 (ct_wayHome hw hl hT ha) rfl rfl ⟨(Nat.le_of_ble_eq_true rfl), (Nat.le_of_ble_eq_true rfl)⟩ ⟨(Nat.le_of_ble_eq_true rfl), (Nat.le_of_ble_eq_true rfl)⟩ (Nat.le_of_ble_eq_true rfl) ?_
  refine r_istore_n hG (hd := d_Search_smallestNext_6) (K := ?_)
  refine r_iconst hG (hd := d_Search_smallestNext_7) (K := ?_)
  refine r_istore hG (hd := d_Search_smallestNext_8) (K := ?_)
  have loop : ∀ m k : Nat, k + m = 6 → nxt S w a l m k = nxt S w a l 6 0 → G (0, 0) 10 [(0, nt a), (1, nt l), (2, rf Γ 1 w), (3, nt (wayH S w a l)), (4, nt k)] [] S := by
    intro m
    induction m with
    | zero =>
      intro k hk hn
      refine r_iload hG (hl0 := rfl) (hd := d_Search_smallestNext_10) (K := ?_)
      refine r_aload_n hG (hl0 := rfl) (hd := d_Search_smallestNext_12) (K := ?_)
      refine r_alen1 hG (hi := by omega) (hd := d_Search_smallestNext_13) (K := ?_)
      refine r_icmp_ge hG (hd := d_Search_smallestNext_14) (kt := fun _ => ?_) (kf := fun hh => absurd hh (by omega))
      refine r_iconst hG (hd := d_Search_smallestNext_74) (K := ?_)
      refine r_iret hG d_Search_smallestNext_75 ⟨(Nat.le_of_ble_eq_true rfl), (Nat.le_of_ble_eq_true rfl)⟩ ?_
      exact ⟨by rw [← hn]; rfl, rfl⟩
    | succ m ih =>
      intro k hk hn
      have hp := (hT (2 * k + w) (by omega)).1
      have h01 := bI_01 l k
      have hc := clr_lt (i := k) hl
      have hw1 := wayH_in (s := clr l k) hw hT hp
      refine r_iload hG (hl0 := rfl) (hd := d_Search_smallestNext_10) (K := ?_)
      refine r_aload_n hG (hl0 := rfl) (hd := d_Search_smallestNext_12) (K := ?_)
      refine r_alen1 hG (hi := by omega) (hd := d_Search_smallestNext_13) (K := ?_)
      refine r_icmp_ge hG (hd := d_Search_smallestNext_14) (kt := fun hh => absurd hh (by omega)) (kf := fun _ => ?_)
      refine r_iload hG (hl0 := rfl) (hd := d_Search_smallestNext_17) (K := ?_)
      refine r_iload_n hG (hl0 := rfl) (hd := d_Search_smallestNext_19) (K := ?_)
      refine cSx hG w_Search_48 d_Search_smallestNext_20 (ct_isIn hl (show k < 6 by omega)) rfl rfl ⟨(Nat.le_of_ble_eq_true rfl), (Nat.le_of_ble_eq_true rfl)⟩ ⟨(Nat.le_of_ble_eq_true rfl), (Nat.le_of_ble_eq_true rfl)⟩ (Nat.le_of_ble_eq_true rfl) ?_
      refine r_if_eq hG (hd := d_Search_smallestNext_23) (kt := fun h => ?_) (kf := fun h => ?_)
      · have e : nxt S w a l (m + 1) k = nxt S w a l m (k + 1) := by simp [nxt, bI_f h]
        rw [e] at hn
        refine r_iinc hG (hl0 := rfl) (hd := d_Search_smallestNext_68) (K := ?_)
        refine r_goto hG (hd := d_Search_smallestNext_71) (K := ?_)
        exact r_sb hG (ih (k + 1) (by omega) hn) ⟨rfl, rfl, rfl, rfl, rfl, trivial⟩
      · have hbt := bI_t h
        refine r_aload_n hG (hl0 := rfl) (hd := d_Search_smallestNext_26) (K := ?_)
        refine r_iload hG (hl0 := rfl) (hd := d_Search_smallestNext_27) (K := ?_)
        first | refine a_1 hG (hd := d_Search_smallestNext_29) (hz := rfl) (hj := by omega) (hi := by omega) (K := ?_) | refine a_2 hG (hd := d_Search_smallestNext_29) (hz := rfl) (hj := by omega) (hi := by omega) (K := ?_) | refine a_10 hG (hd := d_Search_smallestNext_29) (hz := rfl) (hj := by omega) (hi := by omega) (K := ?_) | refine r_aald22 hG (hd := d_Search_smallestNext_29) (hz := rfl) (hj := by omega) (hi := by omega) (K := ?_)
        refine g_Search_67 hG (hi := by omega) (hd := d_Search_smallestNext_30) (K := ?_)
        refine r_istore hG (hd := d_Search_smallestNext_33) (K := ?_)
        refine r_iload hG (hl0 := rfl) (hd := d_Search_smallestNext_35) (K := ?_)
        refine r_iload_n hG (hl0 := rfl) (hd := d_Search_smallestNext_37) (K := ?_)
        first | refine r_isub hG (hd := d_Search_smallestNext_38) (K := ?_) | refine r_isubr hG (hd := d_Search_smallestNext_38) (K := ?_)
        refine r_mabs hG w_Search_76 d_Search_smallestNext_39 ⟨(Nat.le_of_ble_eq_true rfl), (Nat.le_of_ble_eq_true rfl)⟩ ⟨(Nat.le_of_ble_eq_true rfl), (Nat.le_of_ble_eq_true rfl)⟩ (by first | omega | (simp [sU]; omega)) ?_
        refine r_iload hG (hl0 := rfl) (hd := d_Search_smallestNext_42) (K := ?_)
        refine r_iload_n hG (hl0 := rfl) (hd := d_Search_smallestNext_44) (K := ?_)
        refine r_iconst hG (hd := d_Search_smallestNext_45) (K := ?_)
        refine r_iload hG (hl0 := rfl) (hd := d_Search_smallestNext_46) (K := ?_)
        refine r_ishl hG (hd := d_Search_smallestNext_48) (K := ?_)
        refine r_iconst hG (hd := d_Search_smallestNext_49) (K := ?_)
        refine r_ixor hG (hd := d_Search_smallestNext_50) (K := ?_)
        refine r_iand hG (hd := d_Search_smallestNext_51) (K := ?_)
        refine r_top hG (bit_clr l hl k (by omega)) ?_
        have hab : 0 ≤ iabs (S 10 (2 * k + w) 0 - a) ∧ iabs (S 10 (2 * k + w) 0 - a) ≤ 30 := by unfold iabs; split <;> omega
        refine r_aload_n hG (hl0 := rfl) (hd := d_Search_smallestNext_52) (K := ?_)
        refine cSx hG w_Search_21 d_Search_smallestNext_53 (ct_wayHome hw hc hT hp) rfl rfl ⟨(Nat.le_of_ble_eq_true rfl), (Nat.le_of_ble_eq_true rfl)⟩ ⟨(Nat.le_of_ble_eq_true rfl), (Nat.le_of_ble_eq_true rfl)⟩ (Nat.le_of_ble_eq_true rfl) ?_
        first | refine r_iadd hG (hd := d_Search_smallestNext_56) (K := ?_) | refine r_iaddr hG (hd := d_Search_smallestNext_56) (K := ?_)
        refine r_istore hG (hd := d_Search_smallestNext_57) (K := ?_)
        refine r_iload hG (hl0 := rfl) (hd := d_Search_smallestNext_59) (K := ?_)
        refine r_iload_n hG (hl0 := rfl) (hd := d_Search_smallestNext_61) (K := ?_)
        refine r_icmp_ne hG (hd := d_Search_smallestNext_62) (kt := fun h2 => ?_) (kf := fun h2 => ?_)
        · have e : nxt S w a l (m + 1) k = nxt S w a l m (k + 1) := by
            simp only [nxt]
            exact if_neg (fun q => h2 q.2)
          rw [e] at hn
          refine r_iinc hG (hl0 := rfl) (hd := d_Search_smallestNext_68) (K := ?_)
          refine r_goto hG (hd := d_Search_smallestNext_71) (K := ?_)
          exact r_sb hG (ih (k + 1) (by omega) hn) ⟨rfl, rfl, rfl, rfl, rfl, trivial⟩
        · have e : nxt S w a l (m + 1) k = k := by
            simp only [nxt]
            exact if_pos ⟨hbt, h2⟩
          refine r_iload hG (hl0 := rfl) (hd := d_Search_smallestNext_65) (K := ?_)
          refine r_iret hG d_Search_smallestNext_67 ⟨(Nat.le_of_ble_eq_true rfl), (Nat.le_of_ble_eq_true rfl)⟩ ?_
          exact ⟨by rw [← hn, e]; rfl, rfl⟩
  exact r_sb hG (loop 6 0 (by omega) rfl) ⟨rfl, rfl, rfl, rfl, rfl, trivial⟩
/-- the digits of a shortest order behind num -/
def numN (S : St) (w : Nat) : Nat → Nat → Int → Int → Int
  | 0, _, _, num => num
  | m + 1, l, a, num => if l = 0 then num else numN S w m (clr l (nxt S w a l 6 0)) (S 10 (2 * nxt S w a l 6 0 + w) 0) (10 * num + nxt S w a l 6 0)
theorem ct_smallestNumber {Γ : Gm} {S : St} {w s : Nat} (hw : w < 2) (hs : s < 64) (hT : ∀ t, t < 12 → okT S t) : CT Γ y_Search_smallestNumber b_Search_smallestNumber 7 ((some FieldType.int)) (rmx 4 0 0) [nt s, rf Γ 1 w] S (dX (some (nt (numN S w 6 s 0 1))) S) := by
  refine CT.of (by first | exact plainFor_of_name (by rfl) | decide +kernel) (Nat.le_of_ble_eq_true rfl) ?_
  intro G hG
  show G (0, 0) 0 [(0, nt s), (1, rf Γ 1 w)] [] _
  refine r_iconst hG (hd := d_Search_smallestNumber_0) (K := ?_)
  refine r_istore_n hG (hd := d_Search_smallestNumber_1) (K := ?_)
  refine r_iconst hG (hd := d_Search_smallestNumber_2) (K := ?_)
  refine r_istore_n hG (hd := d_Search_smallestNumber_3) (K := ?_)
  refine r_iload_n hG (hl0 := rfl) (hd := d_Search_smallestNumber_4) (K := ?_)
  refine r_istore hG (hd := d_Search_smallestNumber_5) (K := ?_)
  refine r_iconst hG (hd := d_Search_smallestNumber_7) (K := ?_)
  refine r_istore hG (hd := d_Search_smallestNumber_8) (K := ?_)
  have loop : ∀ m k : Nat, k + m = 6 → ∀ (l : Nat) (a num : Int), l < 64 → (0 ≤ a ∧ a ≤ 30) → numN S w m l a num = numN S w 6 s 0 1 → G (0, 0) 10 [(1, rf Γ 1 w), (2, nt num), (3, nt a), (4, nt l), (5, nt k)] [] S := by
    intro m
    induction m with
    | zero =>
      intro k hk l a num hl ha hn
      refine r_iload hG (hl0 := rfl) (hd := d_Search_smallestNumber_10) (K := ?_)
      refine r_aload_n hG (hl0 := rfl) (hd := d_Search_smallestNumber_12) (K := ?_)
      refine r_alen1 hG (hi := by omega) (hd := d_Search_smallestNumber_13) (K := ?_)
      refine r_icmp_ge hG (hd := d_Search_smallestNumber_14) (kt := fun _ => ?_) (kf := fun hh => absurd hh (by omega))
      refine r_iload_n hG (hl0 := rfl) (hd := d_Search_smallestNumber_64) (K := ?_)
      refine r_iret hG d_Search_smallestNumber_65 ⟨(Nat.le_of_ble_eq_true rfl), (Nat.le_of_ble_eq_true rfl)⟩ ?_
      exact ⟨by rw [← hn]; rfl, rfl⟩
    | succ m ih =>
      intro k hk l a num hl ha hn
      refine r_iload hG (hl0 := rfl) (hd := d_Search_smallestNumber_10) (K := ?_)
      refine r_aload_n hG (hl0 := rfl) (hd := d_Search_smallestNumber_12) (K := ?_)
      refine r_alen1 hG (hi := by omega) (hd := d_Search_smallestNumber_13) (K := ?_)
      refine r_icmp_ge hG (hd := d_Search_smallestNumber_14) (kt := fun hh => absurd hh (by omega)) (kf := fun _ => ?_)
      refine r_iload hG (hl0 := rfl) (hd := d_Search_smallestNumber_17) (K := ?_)
      refine r_if_eq hG (hd := d_Search_smallestNumber_19) (kt := fun h => ?_) (kf := fun h => ?_)
      · have e : numN S w (m + 1) l a num = num := by
          simp only [numN]
          exact if_pos (by omega)
        refine r_iload_n hG (hl0 := rfl) (hd := d_Search_smallestNumber_64) (K := ?_)
        refine r_iret hG d_Search_smallestNumber_65 ⟨(Nat.le_of_ble_eq_true rfl), (Nat.le_of_ble_eq_true rfl)⟩ ?_
        exact ⟨by rw [← hn, e]; rfl, rfl⟩
      · have e : numN S w (m + 1) l a num = numN S w m (clr l (nxt S w a l 6 0)) (S 10 (2 * nxt S w a l 6 0 + w) 0) (10 * num + nxt S w a l 6 0) := by
          simp only [numN]
          exact if_neg (by omega)
        rw [e] at hn
        have hx := nxt_lt S w a l 6 0 rfl
        have hp := (hT (2 * nxt S w a l 6 0 + w) (by omega)).1
        refine r_iload_n hG (hl0 := rfl) (hd := d_Search_smallestNumber_22) (K := ?_)
        refine r_iload hG (hl0 := rfl) (hd := d_Search_smallestNumber_23) (K := ?_)
        refine r_aload_n hG (hl0 := rfl) (hd := d_Search_smallestNumber_25) (K := ?_)
        refine cSx hG w_Search_73 d_Search_smallestNumber_26 (ct_smallestNext hw hl hT ha) rfl rfl ⟨(Nat.le_of_ble_eq_true rfl), (Nat.le_of_ble_eq_true rfl)⟩ ⟨(Nat.le_of_ble_eq_true rfl), (Nat.le_of_ble_eq_true rfl)⟩ (Nat.le_of_ble_eq_true rfl) ?_
        refine r_istore hG (hd := d_Search_smallestNumber_29) (K := ?_)
        generalize hE : nxt S w a l 6 0 = E at hn hx hp ⊢
        refine r_bipush hG (hd := d_Search_smallestNumber_31) (K := ?_)
        refine r_iload_n hG (hl0 := rfl) (hd := d_Search_smallestNumber_33) (K := ?_)
        refine r_imul hG (hd := d_Search_smallestNumber_34) (K := ?_)
        refine r_iload hG (hl0 := rfl) (hd := d_Search_smallestNumber_35) (K := ?_)
        first | refine r_iadd hG (hd := d_Search_smallestNumber_37) (K := ?_) | refine r_iaddr hG (hd := d_Search_smallestNumber_37) (K := ?_)
        refine r_istore_n hG (hd := d_Search_smallestNumber_38) (K := ?_)
        refine r_aload_n hG (hl0 := rfl) (hd := d_Search_smallestNumber_39) (K := ?_)
        refine r_iload hG (hl0 := rfl) (hd := d_Search_smallestNumber_40) (K := ?_)
        first | refine a_1 hG (hd := d_Search_smallestNumber_42) (hz := rfl) (hj := by omega) (hi := by omega) (K := ?_) | refine a_2 hG (hd := d_Search_smallestNumber_42) (hz := rfl) (hj := by omega) (hi := by omega) (K := ?_) | refine a_10 hG (hd := d_Search_smallestNumber_42) (hz := rfl) (hj := by omega) (hi := by omega) (K := ?_) | refine r_aald22 hG (hd := d_Search_smallestNumber_42) (hz := rfl) (hj := by omega) (hi := by omega) (K := ?_)
        refine g_Search_67 hG (hi := by omega) (hd := d_Search_smallestNumber_43) (K := ?_)
        refine r_istore_n hG (hd := d_Search_smallestNumber_46) (K := ?_)
        refine r_iload hG (hl0 := rfl) (hd := d_Search_smallestNumber_47) (K := ?_)
        refine r_iconst hG (hd := d_Search_smallestNumber_49) (K := ?_)
        refine r_iload hG (hl0 := rfl) (hd := d_Search_smallestNumber_50) (K := ?_)
        refine r_ishl hG (hd := d_Search_smallestNumber_52) (K := ?_)
        refine r_iconst hG (hd := d_Search_smallestNumber_53) (K := ?_)
        refine r_ixor hG (hd := d_Search_smallestNumber_54) (K := ?_)
        refine r_iand hG (hd := d_Search_smallestNumber_55) (K := ?_)
        refine r_top hG (bit_clr l hl E hx) ?_
        refine r_istore hG (hd := d_Search_smallestNumber_56) (K := ?_)
        refine r_iinc hG (hl0 := rfl) (hd := d_Search_smallestNumber_58) (K := ?_)
        refine r_goto hG (hd := d_Search_smallestNumber_61) (K := ?_)
        exact r_sb hG (ih (k + 1) (by omega) (clr l E) _ _ (clr_lt hl) hp hn) ⟨rfl, rfl, rfl, rfl, rfl, trivial⟩
  exact r_sb hG (loop 6 0 (by omega) s 0 1 hs (by omega) rfl) ⟨rfl, rfl, rfl, rfl, rfl, trivial⟩
end
section
/-! THE SEARCH's run -/
def cmpF (S : St) (ki mi nu : Int) : St :=
  if S 40 0 0 < ki ∨ (ki = S 40 0 0 ∧ mi < S 42 0 0) ∨ (ki = S 40 0 0 ∧ mi = S 42 0 0 ∧ nu < S 41 0 0) then sU (sU (sU S 40 0 0 ki) 42 0 0 mi) 41 0 0 nu else S
theorem ct_compare {Γ : Gm} {S : St} {ki mi nu : Int} (h1 : 0 ≤ ki ∧ ki < 100000000) (h2 : 0 ≤ mi ∧ mi < 100000000) (h3 : 0 ≤ nu ∧ nu < 100000000) (h4 : 0 ≤ S 40 0 0 ∧ S 40 0 0 < 100000000) (h5 : 0 ≤ S 41 0 0 ∧ S 41 0 0 < 100000000) (h6 : 0 ≤ S 42 0 0 ∧ S 42 0 0 < 100000000) :
    CT Γ y_Search_compare b_Search_compare 5 ((none : Option FieldType)) (rmx 1 0 0) [rf Γ 6 0, nt ki, nt mi, nt nu] S (dX none (cmpF S ki mi nu)) := by
  refine CT.of (by first | exact plainFor_of_name (by rfl) | decide +kernel) (Nat.le_of_ble_eq_true rfl) ?_
  intro G hG
  show G (0, 0) 0 [(0, rf Γ 6 0), (1, nt ki), (2, nt mi), (3, nt nu)] [] _
  have tT : (S 40 0 0 < ki ∨ (ki = S 40 0 0 ∧ mi < S 42 0 0) ∨ (ki = S 40 0 0 ∧ mi = S 42 0 0 ∧ nu < S 41 0 0)) → G (0, 0) 48 [(0, rf Γ 6 0), (1, nt ki), (2, nt mi), (3, nt nu)] [] S := by
    intro hb
    refine r_iconst hG (hd := d_Search_compare_48) (K := ?_)
    refine r_goto hG (hd := d_Search_compare_49) (K := ?_)
    refine r_istore hG (hd := d_Search_compare_53) (K := ?_)
    refine r_iload hG (hl0 := rfl) (hd := d_Search_compare_55) (K := ?_)
    refine r_if_eq hG (hd := d_Search_compare_57) (kt := fun hh => absurd hh (by omega)) (kf := fun _ => ?_)
    refine r_aload_n hG (hl0 := rfl) (hd := d_Search_compare_60) (K := ?_)
    refine r_iload_n hG (hl0 := rfl) (hd := d_Search_compare_61) (K := ?_)
    refine p_Search_9 hG (hd := d_Search_compare_62) (K := ?_)
    refine r_aload_n hG (hl0 := rfl) (hd := d_Search_compare_65) (K := ?_)
    refine r_iload_n hG (hl0 := rfl) (hd := d_Search_compare_66) (K := ?_)
    refine p_Search_18 hG (hd := d_Search_compare_67) (K := ?_)
    refine r_aload_n hG (hl0 := rfl) (hd := d_Search_compare_70) (K := ?_)
    refine r_iload_n hG (hl0 := rfl) (hd := d_Search_compare_71) (K := ?_)
    refine p_Search_15 hG (hd := d_Search_compare_72) (K := ?_)
    refine r_vret hG d_Search_compare_75 ⟨(Nat.le_of_ble_eq_true rfl), (Nat.le_of_ble_eq_true rfl)⟩ ?_
    exact ⟨rfl, (if_pos hb).symm⟩
  have tF : ¬ (S 40 0 0 < ki ∨ (ki = S 40 0 0 ∧ mi < S 42 0 0) ∨ (ki = S 40 0 0 ∧ mi = S 42 0 0 ∧ nu < S 41 0 0)) → G (0, 0) 52 [(0, rf Γ 6 0), (1, nt ki), (2, nt mi), (3, nt nu)] [] S := by
    intro hb
    refine r_iconst hG (hd := d_Search_compare_52) (K := ?_)
    refine r_istore hG (hd := d_Search_compare_53) (K := ?_)
    refine r_iload hG (hl0 := rfl) (hd := d_Search_compare_55) (K := ?_)
    refine r_if_eq hG (hd := d_Search_compare_57) (kt := fun _ => ?_) (kf := fun hh => absurd hh (by omega))
    refine r_vret hG d_Search_compare_75 ⟨(Nat.le_of_ble_eq_true rfl), (Nat.le_of_ble_eq_true rfl)⟩ ?_
    exact ⟨rfl, (if_neg hb).symm⟩
  refine r_iload_n hG (hl0 := rfl) (hd := d_Search_compare_0) (K := ?_)
  refine r_aload_n hG (hl0 := rfl) (hd := d_Search_compare_1) (K := ?_)
  refine g_Search_9 hG (hd := d_Search_compare_2) (K := ?_)
  refine r_icmp_gt hG (hd := d_Search_compare_5) (kt := fun a => ?_) (kf := fun a => ?_)
  · exact tT (by omega)
  · refine r_iload_n hG (hl0 := rfl) (hd := d_Search_compare_8) (K := ?_)
    refine r_aload_n hG (hl0 := rfl) (hd := d_Search_compare_9) (K := ?_)
    refine g_Search_9 hG (hd := d_Search_compare_10) (K := ?_)
    refine r_icmp_ne hG (hd := d_Search_compare_13) (kt := fun b => ?_) (kf := fun b => ?_)
    · refine r_iload_n hG (hl0 := rfl) (hd := d_Search_compare_24) (K := ?_)
      refine r_aload_n hG (hl0 := rfl) (hd := d_Search_compare_25) (K := ?_)
      refine g_Search_9 hG (hd := d_Search_compare_26) (K := ?_)
      refine r_icmp_ne hG (hd := d_Search_compare_29) (kt := fun _ => ?_) (kf := fun hh => absurd hh (by omega))
      exact tF (by omega)
    · refine r_iload_n hG (hl0 := rfl) (hd := d_Search_compare_16) (K := ?_)
      refine r_aload_n hG (hl0 := rfl) (hd := d_Search_compare_17) (K := ?_)
      refine g_Search_18 hG (hd := d_Search_compare_18) (K := ?_)
      refine r_icmp_lt hG (hd := d_Search_compare_21) (kt := fun d => ?_) (kf := fun d => ?_)
      · exact tT (by omega)
      · refine r_iload_n hG (hl0 := rfl) (hd := d_Search_compare_24) (K := ?_)
        refine r_aload_n hG (hl0 := rfl) (hd := d_Search_compare_25) (K := ?_)
        refine g_Search_9 hG (hd := d_Search_compare_26) (K := ?_)
        refine r_icmp_ne hG (hd := d_Search_compare_29) (kt := fun hh => absurd hh (by omega)) (kf := fun _ => ?_)
        refine r_iload_n hG (hl0 := rfl) (hd := d_Search_compare_32) (K := ?_)
        refine r_aload_n hG (hl0 := rfl) (hd := d_Search_compare_33) (K := ?_)
        refine g_Search_18 hG (hd := d_Search_compare_34) (K := ?_)
        refine r_icmp_ne hG (hd := d_Search_compare_37) (kt := fun e => ?_) (kf := fun e => ?_)
        · exact tF (by omega)
        · refine r_iload_n hG (hl0 := rfl) (hd := d_Search_compare_40) (K := ?_)
          refine r_aload_n hG (hl0 := rfl) (hd := d_Search_compare_41) (K := ?_)
          refine g_Search_15 hG (hd := d_Search_compare_42) (K := ?_)
          refine r_icmp_ge hG (hd := d_Search_compare_45) (kt := fun g => ?_) (kf := fun g => ?_)
          · exact tF (by omega)
          · exact tT (by omega)
theorem cmpF_of (S : St) (ki mi nu : Int) {f : Nat} (h : f ≠ 40 ∧ f ≠ 41 ∧ f ≠ 42) : cmpF S ki mi nu f = S f := by
  unfold cmpF
  split
  · rw [sU_f h.2.1, sU_f h.2.2, sU_f h.1]
  · rfl
theorem cmpF_in {S : St} {ki mi nu : Int} (h1 : 0 ≤ ki ∧ ki < 100000000) (h2 : 0 ≤ mi ∧ mi < 100000000) (h3 : 0 ≤ nu ∧ nu < 100000000) (h4 : 0 ≤ S 40 0 0 ∧ S 40 0 0 < 100000000) (h5 : 0 ≤ S 41 0 0 ∧ S 41 0 0 < 100000000) (h6 : 0 ≤ S 42 0 0 ∧ S 42 0 0 < 100000000) :
    (0 ≤ cmpF S ki mi nu 40 0 0 ∧ cmpF S ki mi nu 40 0 0 < 100000000) ∧ (0 ≤ cmpF S ki mi nu 41 0 0 ∧ cmpF S ki mi nu 41 0 0 < 100000000) ∧ (0 ≤ cmpF S ki mi nu 42 0 0 ∧ cmpF S ki mi nu 42 0 0 < 100000000) := by
  unfold cmpF
  split
  · simp [sU, h1, h2, h3]
  · exact ⟨h4, h5, h6⟩
theorem numN_in (S : St) (w : Nat) : ∀ (m l : Nat) (a num : Int), 0 ≤ num → 0 ≤ numN S w m l a num ∧ numN S w m l a num < (num + 1) * 10 ^ m
  | 0, l, a, num, h => by
    simp only [numN]
    omega
  | m + 1, l, a, num, h => by
    have hx := nxt_lt S w a l 6 0 rfl
    have ih := numN_in S w m (clr l (nxt S w a l 6 0)) (S 10 (2 * nxt S w a l 6 0 + w) 0) (10 * num + nxt S w a l 6 0) (by omega)
    have hp : (0 : Int) < 10 ^ m := Int.pow_pos (by decide)
    simp only [numN]
    rw [Int.pow_succ]
    split
    · have h1 : (num + 1) * 1 ≤ (num + 1) * (10 ^ m * 10) := Int.mul_le_mul_of_nonneg_left (by omega) (by omega)
      omega
    · have h1 : (10 * num + nxt S w a l 6 0 + 1) * 10 ^ m ≤ (10 * (num + 1)) * 10 ^ m := Int.mul_le_mul_of_nonneg_right (by omega) (by omega)
      have e : (num + 1) * (10 ^ m * 10) = (10 * (num + 1)) * 10 ^ m := by
        rw [Int.mul_comm (10 ^ m) 10, ← Int.mul_assoc, Int.mul_comm (num + 1) 10]
      omega
theorem kilosS_in {S : St} {w i s : Nat} (hw : w < 2) (hT : ∀ t, t < 12 → okT S t) (hL : okL S i) : 0 ≤ kilosS S w i s ∧ kilosS S w i s ≤ 300 := by
  have s0 := sumK_in (s := s) hw (okL_str hL (show 0 < 2 by decide)).1 hT 6 (by decide)
  have s1 := sumK_in (s := s) hw (okL_str hL (show 1 < 2 by decide)).1 hT 6 (by decide)
  unfold kilosS
  split <;> omega
theorem bc_01 (s : Nat) : 0 ≤ bc s ∧ bc s ≤ 6 := by
  have := bI_01 s 0
  have := bI_01 s 1
  have := bI_01 s 2
  have := bI_01 s 3
  have := bI_01 s 4
  have := bI_01 s 5
  unfold bc
  omega
def stepR (S : St) (w i s : Nat) : St := if wayH S w 0 s + 2 * bc s ≤ S 20 i 0 ∧ 0 < kilosS S w i s then cmpF S (kilosS S w i s) (wayH S w 0 s + 2 * bc s) (numN S w 6 s 0 1) else S
def runN (w i : Nat) : Nat → Nat → St → St
  | 0, _, S => S
  | m + 1, s, S => runN w i m (s + 1) (stepR S w i s)
def runF (S : St) (w i n : Nat) : St := runN w i (2 ^ n - 1) 1 (sU (sU (sU S 40 0 0 0) 41 0 0 1) 42 0 0 0)
theorem stepR_of (S : St) (w i s : Nat) {f : Nat} (h : f ≠ 40 ∧ f ≠ 41 ∧ f ≠ 42) : stepR S w i s f = S f := by
  unfold stepR
  split
  · exact cmpF_of _ _ _ _ h
  · rfl
theorem runN_of (w i : Nat) {f : Nat} (h : f ≠ 40 ∧ f ≠ 41 ∧ f ≠ 42) : ∀ (m s : Nat) (S : St), runN w i m s S f = S f
  | 0, _, _ => rfl
  | m + 1, s, S => (runN_of w i h m (s + 1) _).trans (stepR_of S w i s h)
theorem runF_of (S : St) (w i n : Nat) {f : Nat} (h : f ≠ 40 ∧ f ≠ 41 ∧ f ≠ 42) : runF S w i n f = S f := by
  unfold runF
  rw [runN_of w i h, sU_f h.2.2, sU_f h.2.1, sU_f h.1]
theorem ct_searchRun {Γ : Gm} {S : St} {w i n : Nat} (hw : w < 2) (hi : i < 3) (hn : n ≤ 6) (hT : ∀ t, t < 12 → okT S t) (hL : okL S i) : CT Γ y_Search_run b_Search_run 7 ((none : Option FieldType)) (rmx 5 0 0) [rf Γ 6 0, rf Γ 20 i, rf Γ 1 w, nt n] S (dX none (runF S w i n)) := by
  have h2n := bit_two n (by omega)
  have hNle : 2 ^ n ≤ 64 := Nat.le_trans (Nat.pow_le_pow_right (by decide) hn) (by decide)
  have hN1 : 1 ≤ 2 ^ n := Nat.one_le_two_pow
  unfold runF
  generalize hN : 2 ^ n = N at h2n hNle hN1 ⊢
  refine CT.of (by first | exact plainFor_of_name (by rfl) | decide +kernel) (Nat.le_of_ble_eq_true rfl) ?_
  intro G hG
  show G (0, 0) 0 [(0, rf Γ 6 0), (1, rf Γ 20 i), (2, rf Γ 1 w), (3, nt n)] [] _
  refine r_aload_n hG (hl0 := rfl) (hd := d_Search_run_0) (K := ?_)
  refine r_iconst hG (hd := d_Search_run_1) (K := ?_)
  refine p_Search_9 hG (hd := d_Search_run_2) (K := ?_)
  refine r_aload_n hG (hl0 := rfl) (hd := d_Search_run_5) (K := ?_)
  refine r_iconst hG (hd := d_Search_run_6) (K := ?_)
  refine p_Search_15 hG (hd := d_Search_run_7) (K := ?_)
  refine r_aload_n hG (hl0 := rfl) (hd := d_Search_run_10) (K := ?_)
  refine r_iconst hG (hd := d_Search_run_11) (K := ?_)
  refine p_Search_18 hG (hd := d_Search_run_12) (K := ?_)
  refine r_iconst hG (hd := d_Search_run_15) (K := ?_)
  refine r_istore hG (hd := d_Search_run_16) (K := ?_)
  have loop : ∀ m s : Nat, s + m = N → ∀ S1 : St, (∀ t, t < 12 → okT S1 t) → okL S1 i → (0 ≤ S1 40 0 0 ∧ S1 40 0 0 < 100000000) → (0 ≤ S1 41 0 0 ∧ S1 41 0 0 < 100000000) → (0 ≤ S1 42 0 0 ∧ S1 42 0 0 < 100000000) →
      G (0, 0) 86 [] [] (runN w i m s S1) → G (0, 0) 18 [(0, rf Γ 6 0), (1, rf Γ 20 i), (2, rf Γ 1 w), (3, nt n), (4, nt s)] [] S1 := by
    intro m
    induction m with
    | zero =>
      intro s hs S1 h1 h2 h3 h4 h5 K
      refine r_iload hG (hl0 := rfl) (hd := d_Search_run_18) (K := ?_)
      refine r_iconst hG (hd := d_Search_run_20) (K := ?_)
      refine r_iload_n hG (hl0 := rfl) (hd := d_Search_run_21) (K := ?_)
      refine r_ishl hG (hd := d_Search_run_22) (K := ?_)
      refine r_top hG h2n ?_
      refine r_icmp_ge hG (hd := d_Search_run_23) (kt := fun _ => ?_) (kf := fun hh => absurd hh (by omega))
      exact r_sb hG (K) trivial
    | succ m ih =>
      intro s hs S1 h1 h2 h3 h4 h5 K
      have hs64 : s < 64 := by omega
      have hway := wayH_in (s := s) hw h1 (show 0 ≤ (0 : Int) ∧ (0 : Int) ≤ 30 by omega)
      have hbc := bc_01 s
      have hki := kilosS_in (s := s) hw h1 h2
      have hnu := numN_in S1 w 6 s 0 1 (by omega)
      have hsh := h2.1
      have next : G (0, 0) 80 [(0, rf Γ 6 0), (1, rf Γ 20 i), (2, rf Γ 1 w), (3, nt n), (4, nt s)] [] (stepR S1 w i s) := by
        have e : ∀ {f : Nat}, f ≠ 40 ∧ f ≠ 41 ∧ f ≠ 42 → stepR S1 w i s f = S1 f := fun h => stepR_of S1 w i s h
        have c3 : (0 ≤ stepR S1 w i s 40 0 0 ∧ stepR S1 w i s 40 0 0 < 100000000) ∧ (0 ≤ stepR S1 w i s 41 0 0 ∧ stepR S1 w i s 41 0 0 < 100000000) ∧ (0 ≤ stepR S1 w i s 42 0 0 ∧ stepR S1 w i s 42 0 0 < 100000000) := by
          unfold stepR
          split
          · exact cmpF_in (by omega) (by omega) (by omega) h3 h4 h5
          · exact ⟨h3, h4, h5⟩
        refine r_iinc hG (hl0 := rfl) (hd := d_Search_run_80) (K := ?_)
        refine r_goto hG (hd := d_Search_run_83) (K := ?_)
        have q := ih (s + 1) (by omega) (stepR S1 w i s) (fun t ht => okT_of (h1 t ht) (e (by decide)) (e (by decide)) (e (by decide)) (e (by decide)) (e (by decide))) (okL_of h2 (e (by decide)) (e (by decide)) (e (by decide)) (e (by decide))) c3.1 c3.2.1 c3.2.2 K
        exact r_sb hG (q) ⟨rfl, rfl, rfl, rfl, rfl, trivial⟩
      refine r_iload hG (hl0 := rfl) (hd := d_Search_run_18) (K := ?_)
      refine r_iconst hG (hd := d_Search_run_20) (K := ?_)
      refine r_iload_n hG (hl0 := rfl) (hd := d_Search_run_21) (K := ?_)
      refine r_ishl hG (hd := d_Search_run_22) (K := ?_)
      refine r_top hG h2n ?_
      refine r_icmp_ge hG (hd := d_Search_run_23) (kt := fun hh => absurd hh (by omega)) (kf := fun _ => ?_)
      refine r_iconst hG (hd := d_Search_run_26) (K := ?_)
      refine r_iload hG (hl0 := rfl) (hd := d_Search_run_27) (K := ?_)
      refine r_aload_n hG (hl0 := rfl) (hd := d_Search_run_29) (K := ?_)
      refine cSx hG w_Search_21 d_Search_run_30 (ct_wayHome hw hs64 h1 (by omega)) rfl rfl ⟨(Nat.le_of_ble_eq_true rfl), (Nat.le_of_ble_eq_true rfl)⟩ ⟨(Nat.le_of_ble_eq_true rfl), (Nat.le_of_ble_eq_true rfl)⟩ (Nat.le_of_ble_eq_true rfl) ?_
      refine r_iconst hG (hd := d_Search_run_33) (K := ?_)
      refine r_iload hG (hl0 := rfl) (hd := d_Search_run_34) (K := ?_)
      refine cSx hG w_Search_25 d_Search_run_36 (ct_bitCount hs64) rfl rfl ⟨(Nat.le_of_ble_eq_true rfl), (Nat.le_of_ble_eq_true rfl)⟩ ⟨(Nat.le_of_ble_eq_true rfl), (Nat.le_of_ble_eq_true rfl)⟩ (Nat.le_of_ble_eq_true rfl) ?_
      refine r_imul hG (hd := d_Search_run_39) (K := ?_)
      first | refine r_iadd hG (hd := d_Search_run_40) (K := ?_) | refine r_iaddr hG (hd := d_Search_run_40) (K := ?_)
      refine r_istore hG (hd := d_Search_run_41) (K := ?_)
      refine r_aload_n hG (hl0 := rfl) (hd := d_Search_run_43) (K := ?_)
      refine r_iload hG (hl0 := rfl) (hd := d_Search_run_44) (K := ?_)
      refine r_aload_n hG (hl0 := rfl) (hd := d_Search_run_46) (K := ?_)
      refine cSx hG w_Search_31 d_Search_run_47 (ct_kilosOf hw hi hs64 h1 h2) rfl rfl ⟨(Nat.le_of_ble_eq_true rfl), (Nat.le_of_ble_eq_true rfl)⟩ ⟨(Nat.le_of_ble_eq_true rfl), (Nat.le_of_ble_eq_true rfl)⟩ (Nat.le_of_ble_eq_true rfl) ?_
      refine r_istore hG (hd := d_Search_run_50) (K := ?_)
      refine r_iload hG (hl0 := rfl) (hd := d_Search_run_52) (K := ?_)
      refine r_aload_n hG (hl0 := rfl) (hd := d_Search_run_54) (K := ?_)
      refine g_Search_35 hG (hi := by omega) (hd := d_Search_run_55) (K := ?_)
      refine r_icmp_gt hG (hd := d_Search_run_58) (kt := fun h => ?_) (kf := fun h => ?_)
      · rw [show stepR S1 w i s = S1 from if_neg (by omega)] at next
        exact r_sb hG (next) ⟨rfl, rfl, rfl, rfl, rfl, trivial⟩
      · refine r_iload hG (hl0 := rfl) (hd := d_Search_run_61) (K := ?_)
        refine r_if_le hG (hd := d_Search_run_63) (kt := fun h6 => ?_) (kf := fun h6 => ?_)
        · rw [show stepR S1 w i s = S1 from if_neg (by omega)] at next
          exact r_sb hG (next) ⟨rfl, rfl, rfl, rfl, rfl, trivial⟩
        · rw [show stepR S1 w i s = cmpF S1 (kilosS S1 w i s) (wayH S1 w 0 s + 2 * bc s) (numN S1 w 6 s 0 1) from if_pos (by omega)] at next
          refine r_aload_n hG (hl0 := rfl) (hd := d_Search_run_66) (K := ?_)
          refine r_iload hG (hl0 := rfl) (hd := d_Search_run_67) (K := ?_)
          refine r_iload hG (hl0 := rfl) (hd := d_Search_run_69) (K := ?_)
          refine r_iload hG (hl0 := rfl) (hd := d_Search_run_71) (K := ?_)
          refine r_aload_n hG (hl0 := rfl) (hd := d_Search_run_73) (K := ?_)
          refine cSx hG w_Search_40 d_Search_run_74 (ct_smallestNumber hw hs64 h1) rfl rfl ⟨(Nat.le_of_ble_eq_true rfl), (Nat.le_of_ble_eq_true rfl)⟩ ⟨(Nat.le_of_ble_eq_true rfl), (Nat.le_of_ble_eq_true rfl)⟩ (Nat.le_of_ble_eq_true rfl) ?_
          refine cVv hG w_Search_44 d_Search_run_77 (ct_compare (by omega) (by omega) (by omega) h3 h4 h5) (by decide) (by decide) rc_6 rfl rfl ⟨(Nat.le_of_ble_eq_true rfl), (Nat.le_of_ble_eq_true rfl)⟩ ⟨(Nat.le_of_ble_eq_true rfl), (Nat.le_of_ble_eq_true rfl)⟩ (Nat.le_of_ble_eq_true rfl) ?_
          exact r_sb hG (next) ⟨rfl, rfl, rfl, rfl, rfl, trivial⟩
  have e : ∀ {f : Nat}, f ≠ 40 ∧ f ≠ 41 ∧ f ≠ 42 → sU (sU (sU S 40 0 0 0) 41 0 0 1) 42 0 0 0 f = S f := fun h => by rw [sU_f h.2.2, sU_f h.2.1, sU_f h.1]
  have q := loop (N - 1) 1 (by omega) (sU (sU (sU S 40 0 0 0) 41 0 0 1) 42 0 0 0) (fun t ht => okT_of (hT t ht) (e (by decide)) (e (by decide)) (e (by decide)) (e (by decide)) (e (by decide))) (okL_of hL (e (by decide)) (e (by decide)) (e (by decide)) (e (by decide))) (by simp [sU]) (by simp [sU]) (by simp [sU]) (by
    refine r_vret hG d_Search_run_86 ⟨(Nat.le_of_ble_eq_true rfl), (Nat.le_of_ble_eq_true rfl)⟩ ?_
    exact ⟨rfl, rfl⟩)
  exact r_sb hG (q) ⟨rfl, rfl, rfl, rfl, rfl, trivial⟩
end
section
/-! THE DIARY: its row of numbers may be another one later -/
theorem wl_putM (Γ : Gm) {S : St} {j : Nat} {z : Int} : (wl Γ S).set 9 ((S 81 0 0).toNat, CL Γ (sU S 80 0 j z) 25 0) = wl Γ (sU S 80 0 j z) := by
  refine wl_set Γ (by decide) ?_ (fun n hn hne => ?_) ?_
  · unfold fl
    rw [sU_nf (by decide), sU_nf (by decide)]
    simp only [sU_nf (show (85 : Nat) ≠ 80 by decide)]
  · obtain ⟨k', i', h1, h2, h3, h4⟩ := nm_in hn
    rw [h3]
    refine ⟨?_, (CL_congr Γ fun f' j' hf' => ?_).symm⟩
    · unfold adr
      rw [sU_nf (by decide)]
    · by_cases hff : f' = 80
      · subst hff
        have hk : k' = 25 := hf'.symm
        subst hk
        exact absurd h4.symm hne
      · exact (sU_nf hff).symm
  · rfl
section DX
variable {Γ : Gm} {R : Room} {cc : ByteArray} {nL : Nat} {own : String} {ret : Option FieldType} {post : Option Value → St → Prop} {mc ms : Nat} {G : Nat × Nat → Nat → List (Nat × Value) → List Value → St → Prop} {cs : Nat × Nat} {pc n : Nat} {ls : List (Nat × Value)} {st stk : List Value} {S S1 : St}
theorem r_aldM (hG : IsG Γ R cc nL own ret post mc ms G) {j : Nat} {z : Int} (hd : Dc cc pc .iaload 1 n) (hz : z = (j : Int)) (hj : (j : Int) < S 82 0 0) (hN : S 82 0 0 < 1000000) (K : G cs n ls (nt (S 80 0 j) :: st) S) : G cs pc ls (nt z :: .ref (S 81 0 0).toNat :: st) S := by
  obtain ⟨p, e, s, m, args, below, meth, c, Q, hx, hb, hml, hown, hts, hK, hB, hX, hr, rfl⟩ := hG
  obtain ⟨hd, rfl⟩ := hd
  subst hz
  intro H locs la hP hD hS hl
  obtain ⟨h1, h2⟩ := iI_in (N := (S 82 0 0).toNat) (show j < _ by omega) (by omega)
  refine va_iald (D := gD Γ) (cl := classes) (ws := wl Γ S) hx hb hK hP 9 0 (wl_marks Γ S) rfl h1 hd ?_
  rw [h2]
  exact K H locs la hP hD hS hl
theorem r_astM (hG : IsG Γ R cc nL own ret post mc ms G) {j : Nat} {z : Int} {x : Int32} (hd : Dc cc pc .iastore 1 n) (hz : z = (j : Int)) (hj : (j : Int) < S 82 0 0) (hN : S 82 0 0 < 1000000) (K : G cs n ls st (sU S 80 0 j x.toInt)) : G cs pc ls (.int x :: nt z :: .ref (S 81 0 0).toNat :: st) S := by
  obtain ⟨p, e, s, m, args, below, meth, c, Q, hx, hb, hml, hown, hts, hK, hB, hX, hr, rfl⟩ := hG
  obtain ⟨hd, rfl⟩ := hd
  subst hz
  intro H locs la hP hD hS hl
  obtain ⟨h1, h2⟩ := iI_in (N := (S 82 0 0).toNat) (show j < _ by omega) (by omega)
  refine va_iast (D := gD Γ) (cl := classes) (ws := wl Γ S) hx hb hK hP hD hS 9 0 (wl_marks Γ S) rfl h1 hd (fun H1 locs1 hP1 hD1 hS1 => ?_)
  have e2 : (upd (fun j => iI (S 80 0 j)) j x) = (fun q => iI (sU S 80 0 j x.toInt 80 0 q)) := by
    funext q
    by_cases h : q = j
    · subst h; simp [sU, upd, iI_of]
    · simp [sU, upd, h]
  rw [h2, e2] at hP1 hD1
  have e3 : (wl Γ S).set 9 ((S 81 0 0).toNat, .inl (gC Γ 0, (S 82 0 0).toNat, .inl (fun q => iI (sU S 80 0 j x.toInt 80 0 q)))) = wl Γ (sU S 80 0 j x.toInt) := wl_putM Γ (S := S) (j := j) (z := x.toInt)
  rw [e3] at hP1 hD1
  exact K H1 locs1 la hP1 hD1 hS1 hl
theorem r_alenM (hG : IsG Γ R cc nL own ret post mc ms G) (hd : Dc cc pc .arraylength 1 n) (h0 : 0 ≤ S 82 0 0) (K : G cs n ls (nt (S 82 0 0) :: st) S) : G cs pc ls (.ref (S 81 0 0).toNat :: st) S := by
  obtain ⟨p, e, s, m, args, below, meth, c, Q, hx, hb, hml, hown, hts, hK, hB, hX, hr, rfl⟩ := hG
  obtain ⟨hd, rfl⟩ := hd
  intro H locs la hP hD hS hl
  have e2 : Int32.ofNat (S 82 0 0).toNat = iI (S 82 0 0) := by rw [iI_nI h0]; rfl
  exact va_alen (D := gD Γ) (cl := classes) (ws := wl Γ S) hx hb hK hP 9 0 (wl_marks Γ S) rfl e2 hd (K H locs la hP hD hS hl)
theorem r_ifr_eq (hG : IsG Γ R cc nL own ret post mc ms G) {x : Int32} {tgt : Nat} (hd : Dj cc pc (.ifCond .eq) tgt n) (kt : x = 0 → G cs tgt ls st S) (kf : ¬ x = 0 → G cs n ls st S) : G cs pc ls (.int x :: st) S := by
  obtain ⟨p, e, s, m, args, below, meth, c, Q, hx, hb, hml, hown, hts, hK, hB, hX, hr, rfl⟩ := hG
  obtain ⟨off, hd, ht, rfl⟩ := hd
  intro H locs la hP hD hS hl
  exact lv_if_eq hx hb hd ht (fun h => kt h H locs la hP hD hS hl) (fun h => kf h H locs la hP hD hS hl)
end DX
theorem ct_missed {Γ : Gm} {S : St} {i : Nat} (hi : i < 6) : CT Γ y_Diary_missed b_Diary_missed 1 ((some FieldType.int)) (rmx 1 0 0) [nt i] S (dX (some (nt ((2 ^ i : Nat) : Int))) S) := by
  refine CT.of (by first | exact plainFor_of_name (by rfl) | decide +kernel) (Nat.le_of_ble_eq_true rfl) ?_
  intro G hG
  show G (0, 0) 0 [(0, nt i)] [] _
  refine r_iconst hG (hd := d_Diary_missed_0) (K := ?_)
  refine r_iload_n hG (hl0 := rfl) (hd := d_Diary_missed_1) (K := ?_)
  refine r_ishl hG (hd := d_Diary_missed_2) (K := ?_)
  refine r_top hG (bit_two i (by omega)) ?_
  refine r_iret hG d_Diary_missed_3 ⟨(Nat.le_of_ble_eq_true rfl), (Nat.le_of_ble_eq_true rfl)⟩ ?_
  exact ⟨rfl, rfl⟩
/-- whether a mark stands on a day -/
def hasM (S : St) (d : Nat) (m : Int) : Int := if (d : Int) < S 82 0 0 ∧ iI (S 80 0 d) &&& iI m ≠ 0 then 1 else 0
theorem ct_has {Γ : Gm} {S : St} {d : Nat} {m : Int} (hd : d < 100000) (hN : 0 ≤ S 82 0 0 ∧ S 82 0 0 < 1000000) : CT Γ y_Diary_has b_Diary_has 3 ((some FieldType.boolean)) (rmx 1 0 0) [rf Γ 7 0, nt d, nt m] S (dX (some (nt (hasM S d m))) S) := by
  refine CT.of (by first | exact plainFor_of_name (by rfl) | decide +kernel) (Nat.le_of_ble_eq_true rfl) ?_
  intro G hG
  show G (0, 0) 0 [(0, rf Γ 7 0), (1, nt d), (2, nt m)] [] _
  refine r_iload_n hG (hl0 := rfl) (hd := d_Diary_has_0) (K := ?_)
  refine r_if_lt hG (hd := d_Diary_has_1) (kt := fun hh => absurd hh (by omega)) (kf := fun _ => ?_)
  refine r_iload_n hG (hl0 := rfl) (hd := d_Diary_has_4) (K := ?_)
  refine r_aload_n hG (hl0 := rfl) (hd := d_Diary_has_5) (K := ?_)
  refine g_Diary_9 hG (hd := d_Diary_has_6) (K := ?_)
  refine r_alenM hG (hd := d_Diary_has_9) (h0 := hN.1) (K := ?_)
  refine r_icmp_ge hG (hd := d_Diary_has_10) (kt := fun h => ?_) (kf := fun h => ?_)
  · refine r_iconst hG (hd := d_Diary_has_28) (K := ?_)
    refine r_zret hG d_Diary_has_29 ⟨(Nat.le_of_ble_eq_true rfl), (Nat.le_of_ble_eq_true rfl)⟩ (by first | exact Or.inl rfl | exact Or.inr rfl | omega) ?_
    exact ⟨by rw [hasM, if_neg (by omega)], rfl⟩
  · refine r_aload_n hG (hl0 := rfl) (hd := d_Diary_has_13) (K := ?_)
    refine g_Diary_9 hG (hd := d_Diary_has_14) (K := ?_)
    refine r_iload_n hG (hl0 := rfl) (hd := d_Diary_has_17) (K := ?_)
    refine r_aldM hG (hd := d_Diary_has_18) (hz := rfl) (hj := by omega) (hN := hN.2) (K := ?_)
    refine r_iload_n hG (hl0 := rfl) (hd := d_Diary_has_19) (K := ?_)
    refine r_iand hG (hd := d_Diary_has_20) (K := ?_)
    refine r_ifr_eq hG (hd := d_Diary_has_21) (kt := fun h2 => ?_) (kf := fun h2 => ?_)
    · refine r_iconst hG (hd := d_Diary_has_28) (K := ?_)
      refine r_zret hG d_Diary_has_29 ⟨(Nat.le_of_ble_eq_true rfl), (Nat.le_of_ble_eq_true rfl)⟩ (by first | exact Or.inl rfl | exact Or.inr rfl | omega) ?_
      exact ⟨by rw [hasM, if_neg (fun q => q.2 h2)], rfl⟩
    · refine r_iconst hG (hd := d_Diary_has_24) (K := ?_)
      refine r_goto hG (hd := d_Diary_has_25) (K := ?_)
      refine r_zret hG d_Diary_has_29 ⟨(Nat.le_of_ble_eq_true rfl), (Nat.le_of_ble_eq_true rfl)⟩ (by first | exact Or.inl rfl | exact Or.inr rfl | omega) ?_
      exact ⟨by rw [hasM, if_pos ⟨h, h2⟩], rfl⟩
def noteM (S : St) (d : Nat) (m : Int) : St := if (d : Int) < S 82 0 0 then sU S 80 0 d (iI (S 80 0 d) ||| iI m).toInt else S
theorem ct_note {Γ : Gm} {S : St} {d : Nat} {m : Int} (hd : d < 100000) (hN : 0 ≤ S 82 0 0 ∧ S 82 0 0 < 1000000) : CT Γ y_Diary_note b_Diary_note 3 ((none : Option FieldType)) (rmx 1 0 0) [rf Γ 7 0, nt d, nt m] S (dX none (noteM S d m)) := by
  refine CT.of (by first | exact plainFor_of_name (by rfl) | decide +kernel) (Nat.le_of_ble_eq_true rfl) ?_
  intro G hG
  show G (0, 0) 0 [(0, rf Γ 7 0), (1, nt d), (2, nt m)] [] _
  refine r_iload_n hG (hl0 := rfl) (hd := d_Diary_note_0) (K := ?_)
  refine r_if_lt hG (hd := d_Diary_note_1) (kt := fun hh => absurd hh (by omega)) (kf := fun _ => ?_)
  refine r_iload_n hG (hl0 := rfl) (hd := d_Diary_note_4) (K := ?_)
  refine r_aload_n hG (hl0 := rfl) (hd := d_Diary_note_5) (K := ?_)
  refine g_Diary_9 hG (hd := d_Diary_note_6) (K := ?_)
  refine r_alenM hG (hd := d_Diary_note_9) (h0 := hN.1) (K := ?_)
  refine r_icmp_ge hG (hd := d_Diary_note_10) (kt := fun h => ?_) (kf := fun h => ?_)
  · refine r_vret hG d_Diary_note_23 ⟨(Nat.le_of_ble_eq_true rfl), (Nat.le_of_ble_eq_true rfl)⟩ ?_
    exact ⟨rfl, by rw [noteM, if_neg (by omega)]⟩
  · refine r_aload_n hG (hl0 := rfl) (hd := d_Diary_note_13) (K := ?_)
    refine g_Diary_9 hG (hd := d_Diary_note_14) (K := ?_)
    refine r_iload_n hG (hl0 := rfl) (hd := d_Diary_note_17) (K := ?_)
    refine r_dup2 hG (hd := d_Diary_note_18) (K := ?_)
    refine r_aldM hG (hd := d_Diary_note_19) (hz := rfl) (hj := by omega) (hN := hN.2) (K := ?_)
    refine r_iload_n hG (hl0 := rfl) (hd := d_Diary_note_20) (K := ?_)
    refine r_ior hG (hd := d_Diary_note_21) (K := ?_)
    refine r_astM hG (hd := d_Diary_note_22) (hz := rfl) (hj := by omega) (hN := hN.2) (K := ?_)
    refine r_vret hG d_Diary_note_23 ⟨(Nat.le_of_ble_eq_true rfl), (Nat.le_of_ble_eq_true rfl)⟩ ?_
    exact ⟨rfl, by rw [noteM, if_pos (by omega)]⟩
/-! a longer row, with what was in the old one -/
theorem AC_w : Cond.methodLink "java/util/Arrays" 304 Lib.Math.min.name ∈ tg ∧ Cond.methodLink "java/util/Arrays" 150 arraycopyName ∈ tg ∧ Cond.native arraycopyName ∈ tg ∧ Cond.static arraycopyName ∈ tg ∧ Cond.initialized "java/lang/System" ∈ tg ∧ Cond.arrayClass .int ∈ tg :=
  ⟨m_T4 (i := 57) (by decide +kernel) (by decide +kernel), m_T4 (i := 58) (by decide +kernel) (by decide +kernel), m_T4 (i := 60) (by decide +kernel) (by decide +kernel), m_T4 (i := 59) (by decide +kernel) (by decide +kernel), m_T1 (i := 22) (by decide +kernel) (by decide +kernel), m_T1 (i := 68) (by decide +kernel) (by decide +kernel)⟩
end
section
/-- Arrays.copyOf of a row of N numbers to 2 N -/
theorem cp_met (l : Launch) (D : va_G) (cI : ClassId) (a0 N sz : Nat) (f : Nat → Int32) (hN : 1 ≤ N ∧ N ≤ 500) : Met l y_Arrays_copyOf (.code y_Arrays_copyOf b_Arrays_copyOf 3 (some (.array .int)) :: tg) (rmx 2 1 1000)
    (va_Pc [.ref a0, nt ((2 * N : Nat) : Int)] (fun U => U.heap.size = sz ∧ va_P D classes [(a0, .inl (cI, N, .inl f))] U.heap ∧ va_K D classes [(cI, .int)] U))
    (va_Qr (fun u : ClassId => True) (fun u q t => va_P D classes [(a0, .inl (cI, N, .inl f)), (q, .inl (u, 2 * N, .inl (va_cpy f (fun _ => 0) 0 0 N)))] t.heap ∧ va_K D classes [(cI, .int), (u, .int)] t ∧ va_D (va_A [(a0, .inl (cI, N, .inl f))] sz) [(a0, .inl (cI, N, .inl f)), (q, .inl (u, 2 * N, .inl (va_cpy f (fun _ => 0) 0 0 N)))] ∧ sz ≤ q) (va_A [(a0, .inl (cI, N, .inl f))] sz)) 1 1000 (va_A [(a0, .inl (cI, N, .inl f))] sz) := by
  refine ofWF (cc := b_Arrays_copyOf) (maxL := 3) (ret := some (.array .int)) (plainFor_of_name (by rfl)) rfl ?_
  intro p e s m args below meth c s₁ B hml hv
  obtain ⟨rfl, hsz, hP, hK⟩ := hv
  have hx := B.exec
  have hb := B.bytes
  have hr := B.returns
  have hts0 := atoms_spec (ws := .code y_Arrays_copyOf b_Arrays_copyOf 3 (some (.array .int)) :: tg) B.pre
  have hts : ∀ w ∈ tg, w.before [Value.ref a0, nt ((2 * N : Nat) : Int)].toArray s = true := fun w hw => hts0 w (List.mem_cons_of_mem _ hw)
  have hown : s.vm.findClass "java/util/Arrays" = some m.cls := findClass_of_methodNamed B.named
  have hlocks := B.notSynchronized
  subst hsz
  have hal : a0 < s.heap.size := (hP 0 _ rfl).lt
  have hD : va_D (va_A [(a0, .inl (cI, N, .inl f))] s.heap.size) [(a0, .inl (cI, N, .inl f))] := ⟨fun i j x y hi hj _ => by
      have h1 := (List.getElem?_eq_some_iff.mp hi).1
      have h2 := (List.getElem?_eq_some_iff.mp hj).1
      simp at h1 h2
      omega, fun k q hq => va_A.in hq⟩
  generalize hAe : va_A [(a0, .inl (cI, N, .inl f))] s.heap.size = A at hD ⊢
  have hA : ∀ q : Nat, s.heap.size ≤ q → A q := fun q h => by rw [← hAe]; exact Or.inr h
  have hS : va_S A s.heap s.heap [] := va_S.rf
  have hl := lv_entry ([.ref a0, nt ((2 * N : Nat) : Int)]) (n := 3) (Nat.le_of_ble_eq_true rfl)
  rw [lg_entry_eq]
  generalize (lg_sl ([.ref a0, nt ((2 * N : Nat) : Int)]) ++ List.replicate (3 - (lg_sl ([.ref a0, nt ((2 * N : Nat) : Int)])).length) Slot.unset).toArray = ls at hl ⊢
  have hl : lv_has ls 3 [(0, .ref a0), (1, .int (iI ((2 * N : Nat) : Int)))] := hl
  have e2 : iI ((2 * N : Nat) : Int) = nI (2 * N) := by rw [iI_nI (by omega), Int.toNat_natCast]
  rw [e2] at hl
  refine lv_iload_n hx hb d_Arrays_copyOf_0.1 rfl (lv_at hl 1 rfl) ?_
  refine lv_aload_n hx hb d_Arrays_copyOf_1.1 rfl (lv_at hl 0 rfl) ?_
  refine va_alen hx hb hK hP 0 0 rfl rfl (v := nI N) rfl d_Arrays_copyOf_2.1 ?_
  obtain ⟨off3, hd3, ht3, -⟩ := d_Arrays_copyOf_3
  refine lv_icmp_ne hx hb hd3 ht3 (fun _ => ?_) (fun h => absurd ((nI_eq (by omega) (by omega)).mp h) (by omega))
  refine lv_iload_n hx hb d_Arrays_copyOf_14.1 rfl (lv_at hl 1 rfl) ?_
  refine va_newa (atype := .int) (ty := .int) (N' := 2 * N) (a0 := (2 * N, .inl (fun _ => 0))) hx hb (hts _ AC_w.2.2.2.2.2) rfl hK hP hD hS hA (fun cA => rfl) (nI_pos (by omega)) (nI_clamp (by omega)) (by show 2 * N * 4 ≤ 536870912; omega) (Nat.le_of_ble_eq_true rfl) (by show 0 + 2 * N ≤ 1000; omega) d_Arrays_copyOf_15.1 (fun q cA H1 hK hP hD hS => ?_)
  have hP : va_P D classes [(a0, .inl (cI, N, .inl f)), (q, .inl (cA, 2 * N, .inl (fun _ => 0)))] H1 := hP
  have hD : va_D A [(a0, .inl (cI, N, .inl f)), (q, .inl (cA, 2 * N, .inl (fun _ => 0)))] := hD
  have hK : va_K D classes [(cI, .int), (cA, .int)] s := hK
  have hqge : s.heap.size ≤ q := by
    have h1 := hD.2 1 _ rfl
    rw [← hAe] at h1
    rcases h1 with ⟨k, e, h1⟩ | h1
    · exfalso
      have hk : k = 0 := by
        have := (List.getElem?_eq_some_iff.mp h1).1
        simp at this
        omega
      subst hk
      have h3 : (a0, (.inl (cI, N, .inl f) : va_E)) = (q, e) := Option.some.inj h1
      have h4 : a0 = q := congrArg Prod.fst h3
      have := hD.1 0 1 _ _ rfl rfl h4
      omega
    · exact h1
  refine W.widen (k := 1) (n := 1000) (by omega) (by omega) ?_
  refine lv_astore_n (lv' := [(2, .ref q), (0, .ref a0), (1, .int (nI (2 * N)))]) hx hb d_Arrays_copyOf_17.1 rfl hl (by decide) rfl (fun ls hl => ?_)
  refine lv_aload_n hx hb d_Arrays_copyOf_18.1 rfl (lv_at hl 1 rfl) ?_
  refine lv_iconst (v := 0) hx hb d_Arrays_copyOf_19.1 (by decide) ?_
  refine lv_aload_n hx hb d_Arrays_copyOf_20.1 rfl (lv_at hl 0 rfl) ?_
  refine lv_iconst (v := 0) hx hb d_Arrays_copyOf_21.1 (by decide) ?_
  refine lv_aload_n hx hb d_Arrays_copyOf_22.1 rfl (lv_at hl 1 rfl) ?_
  refine va_alen hx hb hK hP 0 0 rfl rfl (v := nI N) rfl d_Arrays_copyOf_23.1 ?_
  refine lv_iload_n hx hb d_Arrays_copyOf_24.1 rfl (lv_at hl 2 rfl) ?_
  refine va_mmin hx hb (hml.trans hl.1.symm) hown (hts _ AC_w.1) (hts _ MM_min.1) (hts _ MM_ini) (hts _ MM_min.2) (Nat.le_of_ble_eq_true rfl) (Nat.le_of_ble_eq_true rfl) (Nat.le_of_ble_eq_true rfl) (Nat.le_of_ble_eq_true rfl) d_Arrays_copyOf_25.1 ?_
  rw [if_neg (nI_nlt (show N ≤ 2 * N by omega) (by omega))]
  have z0 : (0 : Int32).toNatClampNeg = 0 := rfl
  have zN : (nI N).toNatClampNeg = N := nI_clamp (by omega)
  refine va_copyi hx hb (hml.trans hl.1.symm) hown (hts _ AC_w.2.1) (hts _ AC_w.2.2.1) (hts _ AC_w.2.2.2.1) (hts _ AC_w.2.2.2.2.1) hK hP hD hS 0 1 0 1 rfl rfl rfl rfl rfl (by decide) (by decide) (nI_pos (by omega)) (by rw [z0, zN]; omega) (by rw [z0, zN]; omega) (fun i _ => rfl) (Nat.le_of_ble_eq_true rfl) (Nat.le_of_ble_eq_true rfl) d_Arrays_copyOf_28.1 (fun H2 locs2 hP hD hS => ?_)
  rw [z0, zN] at hP hD
  have hP : va_P D classes [(a0, .inl (cI, N, .inl f)), (q, .inl (cA, 2 * N, .inl (va_cpy f (fun _ => 0) 0 0 N)))] H2 := hP
  have hD : va_D A [(a0, .inl (cI, N, .inl f)), (q, .inl (cA, 2 * N, .inl (va_cpy f (fun _ => 0) 0 0 N)))] := hD
  refine lv_aload_n hx hb d_Arrays_copyOf_31.1 rfl (lv_at hl 0 rfl) ?_
  exact W.aret hx hb hr (Or.inr ⟨_, rfl⟩) (Or.inr ⟨_, rfl⟩) (fun t ht hW => ⟨⟨cA, q, rfl, trivial, by rw [ht]; exact hP, va_K.moved hW.alike hK, hD, hqge⟩, hS.F ht⟩) hS.2.2 d_Arrays_copyOf_32.1
theorem w_pick {D : va_G} {cl : List vw_C} {A : Nat → Prop} {ws ws' : va_W} {H : Heap} (f : Nat → Nat) (h : ∀ n q, ws'[n]? = some q → ws[f n]? = some q) (inj : ∀ i j, i < ws'.length → j < ws'.length → f i = f j → i = j) (hP : va_P D cl ws H) (hD : va_D A ws) : va_P D cl ws' H ∧ va_D A ws' :=
  ⟨fun k q hq => hP (f k) q (h k q hq), fun i j p q hi hj hpq => inj i j (List.getElem?_eq_some_iff.mp hi).1 (List.getElem?_eq_some_iff.mp hj).1 (hD.1 _ _ p q (h i p hi) (h j q hj) hpq), fun k q hq => hD.2 (f k) q (h k q hq)⟩
theorem wl_other (Γ : Gm) (S : St) (x y : Int) {n : Nat} (h8 : n ≠ 8) (h9 : n ≠ 9) : (wl Γ (sU (sU S 81 0 0 x) 82 0 0 y))[n]? = (wl Γ S)[n]? := by
  have hfl : fl Γ (sU (sU S 81 0 0 x) 82 0 0 y) = fl Γ S := by
    unfold fl
    simp [sU]
  unfold wl
  rw [hfl]
  by_cases hn : n < 138
  · rw [List.getElem?_append_left (by rw [wm_len]; exact hn), List.getElem?_append_left (by rw [wm_len]; exact hn), wm_get Γ _ hn, wm_get Γ _ hn]
    obtain ⟨k', i', h1, h2, h3, h4⟩ := nm_in hn
    rw [h3]
    have e1 : adr Γ (sU (sU S 81 0 0 x) 82 0 0 y) n = adr Γ S n := by
      unfold adr
      rw [if_neg h9, if_neg h9]
    have e2 : CL Γ (sU (sU S 81 0 0 x) 82 0 0 y) k' i' = CL Γ S k' i' := (CL_congr Γ fun f' j' hf' => by
      have hf' : fk f' = k' := hf'
      have n1 : f' ≠ 81 := fun q => by
        subst q
        have hk : k' = 7 := hf'.symm
        subst hk
        exact h8 h4.symm
      have n2 : f' ≠ 82 := fun q => by
        subst q
        have hk : k' = 25 := hf'.symm
        subst hk
        exact h9 h4.symm
      rw [sU_nf n2, sU_nf n1]).symm
    rw [e1, e2]
  · rw [List.getElem?_append_right (by rw [wm_len]; omega), List.getElem?_append_right (by rw [wm_len]; omega), wm_len, wm_len]
theorem AR_l : Cond.fieldLink "BinWard$Diary" 9 "BinWard$Diary" "marks" "[I" ∈ tg := (m_T1 (i := 93) (by decide +kernel) (by decide +kernel))
theorem r_grow {Γ : Gm} {R : Room} {cc : ByteArray} {nL : Nat} {ret : Option FieldType} {post : Option Value → St → Prop} {mc ms : Nat} {G : Nat × Nat → Nat → List (Nat × Value) → List Value → St → Prop} {cs : Nat × Nat} {pc n n2 : Nat} {ls : List (Nat × Value)} {st : List Value} {S : St}
    (hG : IsG Γ R cc nL "BinWard$Diary" ret post mc ms G) {N : Nat} (hd : Dc cc pc (.invokestatic 15) 3 n) (hd2 : Dc cc n (.putfield 9) 3 n2) (hN : S 82 0 0 = (N : Int)) (hN2 : 1 ≤ N ∧ N ≤ 500) (hz : ∀ j, N ≤ j → S 80 0 j = 0) (hR : 2 + 1 ≤ R.frames ∧ 8 + (3 + 11) + 30 * 2 ≤ R.locals) (hf : cs.1 + 1 ≤ R.cells ∧ cs.2 + 1000 ≤ R.slots)
    (hst : ((rf Γ 7 0 :: st).map fun v => v.category).sum ≤ 8) (K : ∀ q : Nat, G (cs.1 + 1, cs.2 + 1000) n2 ls st (sU (sU S 81 0 0 q) 82 0 0 ((2 * N : Nat) : Int))) : G cs pc ls (nt ((2 * N : Nat) : Int) :: .ref (S 81 0 0).toNat :: rf Γ 7 0 :: st) S := by
  obtain ⟨p, e, s, m, args, below, meth, c, Q, hx, hb, hml, hown, hts, hK, hB, hX, hr, rfl⟩ := hG
  obtain ⟨hd, rfl⟩ := hd
  obtain ⟨hd2, rfl⟩ := hd2
  intro H locs la hP hD hS hl
  obtain ⟨w1, w2, w4, w5, w6, w7⟩ := w_Diary_15
  have h9 : (wl Γ S)[9]? = some ((S 81 0 0).toNat, .inl (gC Γ 0, N, .inl (fun j => iI (S 80 0 j)))) := by
    rw [wl_marks]
    show some (_, (Sum.inl (gC Γ 0, (S 82 0 0).toNat, Sum.inl (fun j => iI (S 80 0 j))) : va_E)) = _
    rw [hN, Int.toNat_natCast]
  generalize ha0 : (S 81 0 0).toNat = a0 at h9 ⊢
  have hPc : va_P (gD Γ) classes [(a0, .inl (gC Γ 0, N, .inl (fun j => iI (S 80 0 j))))] H := fun k q hq => by
    have hk : k = 0 := by
      have := (List.getElem?_eq_some_iff.mp hq).1
      simp at this
      omega
    subst hk
    cases hq
    exact hP 9 _ h9
  have hKc : va_K (gD Γ) classes [(gC Γ 0, .int)] s := hK.sub (tys' := [(gC Γ 0, .int)]) [0] rfl
  have cb : CallB R s args "BinWard$Diary" 15 y_Arrays_copyOf b_Arrays_copyOf 3 (some (.array .int)) (.code y_Arrays_copyOf b_Arrays_copyOf 3 (some (.array .int)) :: tg) (rmx 2 1 1000) 1 1000 2 := callB_of 2 hts (tg_goodIn w5) rfl rfl rfl (hts _ w4) (hts _ w1) ⟨w6.1, w6.2, w7⟩ hR
  have run := va_runS (e := e) (below := below) (meth := meth) (As := [.ref a0, nt ((2 * N : Nat) : Int)]) (rest := rf Γ 7 0 :: st) (g := F0 m pc la (nt ((2 * N : Nat) : Int) :: .ref a0 :: rf Γ 7 0 :: st)) (H := H) (locs := locs) (cells := cs.1) (slots := cs.2) ⟨hx, hb, hml, hown, hts⟩ (cp_met (gL Γ) (gD Γ) (gC Γ 0) a0 N H.size (fun j => iI (S 80 0 j)) hN2) ⟨cb, hts _ w2⟩
    ⟨fun a U g mk q => ⟨q.1, q.2.1, q.2.2.1, va_K.moved (u := U) (U := U.calling g mk a) (Vm.Alike.refl U.vm) q.2.2.2⟩, fun U hU hW => ⟨rfl, by rw [hU], by rw [hU]; exact hPc, va_K.moved hW.alike hKc⟩⟩ rfl rfl hl.1 rfl (lv_room hst) hd hf
  have hgF : ∀ q, va_A [(a0, (.inl (gC Γ 0, N, .inl (fun j => iI (S 80 0 j))) : va_E))] H.size q → gF Γ q := by
    intro q h
    rcases h with ⟨k, x, h⟩ | h
    · have hk : k = 0 := by
        have := (List.getElem?_eq_some_iff.mp h).1
        simp at this
        omega
      subst hk
      cases h
      exact hD.2 9 _ h9
    · exact Nat.le_trans hB (Nat.le_trans hS.1 h)
  refine va_callr run hS (fun q _ h => hgF q h) hgF (fun u ra t H1 locs1 ht hvm hw hB1 hz1 hk1 hS1 => ?_)
  obtain ⟨hP1, hK1, hD1, hge⟩ := hB1
  rw [ht] at hP1
  have hu : u = gC Γ 0 := by
    have r1 : t.vm.findClass ("[" ++ (FieldType.int).toString) = some u := (hK1.2 1 _ rfl).2
    have r2 : s.vm.findClass ("[" ++ (FieldType.int).toString) = some (gC Γ 0) := (hK.2 0 _ rfl).2
    rw [hvm.findClass] at r1
    exact Option.some.inj (r1.symm.trans r2)
  subst hu
  have hP2 : va_P (gD Γ) classes (wl Γ S) H1 := fun k q hq => by
    refine (hP k q hq).kept ?_
    by_cases hqa : q.1 = a0
    · have c1 : H1[a0]? = some (vp_cell (gC Γ 0) (N, .inl (fun j => iI (S 80 0 j)))) := hP1 0 _ rfl
      have c2 : H[a0]? = some (vp_cell (gC Γ 0) (N, .inl (fun j => iI (S 80 0 j)))) := hPc 0 _ rfl
      rw [hqa, c1, c2]
    · refine hk1 q.1 (hP k q hq).lt (fun h => ?_)
      rcases h with ⟨k2, x, h⟩ | h
      · have hk : k2 = 0 := by
          have := (List.getElem?_eq_some_iff.mp h).1
          simp at this
          omega
        subst hk
        cases h
        exact hqa rfl
      · exact absurd (hP k q hq).lt (Nat.not_lt.mpr h)
  have hP3 : va_P (gD Γ) classes (wl Γ S ++ [(ra, .inl (gC Γ 0, 2 * N, .inl (va_cpy (fun j => iI (S 80 0 j)) (fun _ => 0) 0 0 N)))]) H1 := va_P.app hP2 (fun k q hq => by
    have hk : k = 0 := by
      have := (List.getElem?_eq_some_iff.mp hq).1
      simp at this
      omega
    subst hk
    cases hq
    exact hP1 1 _ rfl)
  have hD3 : va_D (gF Γ) (wl Γ S ++ [(ra, .inl (gC Γ 0, 2 * N, .inl (va_cpy (fun j => iI (S 80 0 j)) (fun _ => 0) 0 0 N)))]) := by
    refine va_D.app hD ⟨fun i j x y hi hj _ => ?_, fun k q hq => ?_⟩ (fun i j x y hx hy hxy => ?_)
    · have h1 := (List.getElem?_eq_some_iff.mp hi).1
      have h2 := (List.getElem?_eq_some_iff.mp hj).1
      simp at h1 h2
      omega
    · have hk : k = 0 := by
        have := (List.getElem?_eq_some_iff.mp hq).1
        simp at this
        omega
      subst hk
      cases hq
      exact hgF ra (hD1.2 1 _ rfl)
    · have hj : j = 0 := by
        have := (List.getElem?_eq_some_iff.mp hy).1
        simp at this
        omega
      subst hj
      cases hy
      have h1 := (hP i x hx).lt
      have h2 : x.1 = ra := hxy
      omega
  have he8 : (wl Γ S ++ [(ra, (.inl (gC Γ 0, 2 * N, .inl (va_cpy (fun j => iI (S 80 0 j)) (fun _ => 0) 0 0 N)) : va_E))])[8]? = some (gA Γ 8, .inr (2, [.ref a0])) := by
    have h8 := wl_at Γ S (k := 7) (i := 0) (by decide) (by decide)
    have h8 : (wl Γ S)[8]? = some (gA Γ 8, .inr (2, [.ref (S 81 0 0).toNat])) := h8
    rw [ha0] at h8
    rw [List.getElem?_append_left (List.getElem?_eq_some_iff.mp h8).1]
    exact h8
  refine va_put (D := gD Γ) (cl := classes) (ws := wl Γ S ++ [(ra, .inl (gC Γ 0, 2 * N, .inl (va_cpy (fun j => iI (S 80 0 j)) (fun _ => 0) 0 0 N)))]) (C := R_Diary) (T := F_Diary) (N := 1) (v := .ref ra) (ty := .array .int) hx hb hts i_Diary t_Diary t_Diary_ok n_Diary hown hK hP3 hD3 hS1 8 he8 rfl 0 (by decide) (hts _ AR_l) (fun _ h => h) rfl (by decide +kernel) rfl rfl (by show 0 < 1; decide) hd2 (fun H2 locs2 hP4 hD4 hS4 => ?_)
  have hlen : 138 ≤ (wl Γ S).length := by
    unfold wl
    rw [List.length_append, wm_len]
    omega
  have hlen2 : (wl Γ (sU (sU S 81 0 0 ra) 82 0 0 ((2 * N : Nat) : Int))).length = (wl Γ S).length := by
    have hfl : fl Γ (sU (sU S 81 0 0 ra) 82 0 0 ((2 * N : Nat) : Int)) = fl Γ S := by
      unfold fl
      simp [sU]
    unfold wl
    rw [List.length_append, List.length_append, wm_len, wm_len, hfl]
  have hcp : va_cpy (fun j => iI (S 80 0 j)) (fun _ => 0) 0 0 N = fun j => iI (S 80 0 j) := by
    funext j
    unfold va_cpy
    by_cases hj : j < N
    · rw [if_pos ⟨Nat.zero_le _, by omega⟩]
      simp
    · rw [if_neg (by omega), hz j (by omega)]
      rfl
  have hall := w_pick (ws' := wl Γ (sU (sU S 81 0 0 ra) 82 0 0 ((2 * N : Nat) : Int))) (fun n => if n = 9 then (wl Γ S).length else n) (fun n q hq => ?_) (fun i j hi hj hij => ?_) hP4 hD4
  · exact K ra H2 locs2 la hall.1 hall.2 hS4 hl
  · by_cases h9' : n = 9
    · subst h9'
      rw [if_pos rfl, List.getElem?_set_ne (by omega), List.getElem?_append_right (Nat.le_refl _), Nat.sub_self]
      rw [wl_marks] at hq
      rw [← hq]
      show some (ra, (Sum.inl (gC Γ 0, 2 * N, Sum.inl (va_cpy (fun j => iI (S 80 0 j)) (fun _ => 0) 0 0 N)) : va_E)) = some (((sU (sU S 81 0 0 ra) 82 0 0 ((2 * N : Nat) : Int)) 81 0 0).toNat, (Sum.inl (gC Γ 0, ((sU (sU S 81 0 0 ra) 82 0 0 ((2 * N : Nat) : Int)) 82 0 0).toNat, Sum.inl (fun j => iI ((sU (sU S 81 0 0 ra) 82 0 0 ((2 * N : Nat) : Int)) 80 0 j))) : va_E))
      rw [hcp, sU_eq, sU_nf (by decide), sU_eq, Int.toNat_natCast, Int.toNat_natCast, sU_f (by decide), sU_f (by decide)]
    · rw [if_neg h9']
      by_cases h8 : n = 8
      · subst h8
        have h8' := wl_at Γ (sU (sU S 81 0 0 ra) 82 0 0 ((2 * N : Nat) : Int)) (k := 7) (i := 0) (by decide) (by decide)
        have h8' : (wl Γ (sU (sU S 81 0 0 ra) 82 0 0 ((2 * N : Nat) : Int)))[8]? = some (gA Γ 8, .inr (2, [.ref ((sU (sU S 81 0 0 ra) 82 0 0 ((2 * N : Nat) : Int)) 81 0 0).toNat])) := h8'
        rw [sU_nf (by decide), sU_eq, Int.toNat_natCast] at h8'
        rw [List.getElem?_set_self (by rw [List.length_append]; omega), ← hq, h8']
        rfl
      · rw [List.getElem?_set_ne (Ne.symm h8), List.getElem?_append_left (by rw [← hlen2]; exact (List.getElem?_eq_some_iff.mp hq).1), ← wl_other Γ S ra ((2 * N : Nat) : Int) h8 h9']
        exact hq
  · rw [hlen2] at hi hj
    by_cases h1 : i = 9 <;> by_cases h2 : j = 9 <;> simp [h1, h2] at hij ⊢ <;> omega
/-- there is room for the day -/
theorem ct_reach {Γ : Gm} {S : St} {d : Int} {N : Nat} (hd : 0 ≤ d ∧ d ≤ 500) (hN : S 82 0 0 = (N : Int)) (hN1 : 1 ≤ N ∧ N ≤ 1000) (hz : ∀ j, N ≤ j → S 80 0 j = 0) : CT Γ y_Diary_reach b_Diary_reach 2 ((none : Option FieldType)) (rmx 4 1 1000) [rf Γ 7 0, nt d] S (fun v S' => v = none ∧ ∃ q : Nat, S' = if (N : Int) ≤ d then sU (sU S 81 0 0 q) 82 0 0 ((2 * N : Nat) : Int) else S) := by
  have h82 : 0 ≤ S 82 0 0 := by omega
  refine CT.of (by first | exact plainFor_of_name (by rfl) | decide +kernel) (Nat.le_of_ble_eq_true rfl) ?_
  intro G hG
  show G (0, 0) 0 [(0, rf Γ 7 0), (1, nt d)] [] _
  refine r_iload_n hG (hl0 := rfl) (hd := d_Diary_reach_0) (K := ?_)
  refine r_aload_n hG (hl0 := rfl) (hd := d_Diary_reach_1) (K := ?_)
  refine g_Diary_9 hG (hd := d_Diary_reach_2) (K := ?_)
  refine r_alenM hG (hd := d_Diary_reach_5) (h0 := h82) (K := ?_)
  refine r_icmp_lt hG (hd := d_Diary_reach_6) (kt := fun h => ?_) (kf := fun h => ?_)
  · refine r_vret hG d_Diary_reach_38 ⟨(Nat.le_of_ble_eq_true rfl), (Nat.le_of_ble_eq_true rfl)⟩ ?_
    exact ⟨rfl, 0, by rw [if_neg (by omega)]⟩
  · refine r_aload_n hG (hl0 := rfl) (hd := d_Diary_reach_9) (K := ?_)
    refine g_Diary_9 hG (hd := d_Diary_reach_10) (K := ?_)
    refine r_alenM hG (hd := d_Diary_reach_13) (h0 := h82) (K := ?_)
    refine r_sipush hG (hd := d_Diary_reach_14) (K := ?_)
    refine r_icmp_gt hG (hd := d_Diary_reach_17) (kt := fun hh => absurd hh (by omega)) (kf := fun _ => ?_)
    refine r_aload_n hG (hl0 := rfl) (hd := d_Diary_reach_20) (K := ?_)
    refine r_aload_n hG (hl0 := rfl) (hd := d_Diary_reach_21) (K := ?_)
    refine g_Diary_9 hG (hd := d_Diary_reach_22) (K := ?_)
    refine r_iconst hG (hd := d_Diary_reach_25) (K := ?_)
    refine r_aload_n hG (hl0 := rfl) (hd := d_Diary_reach_26) (K := ?_)
    refine g_Diary_9 hG (hd := d_Diary_reach_27) (K := ?_)
    refine r_alenM hG (hd := d_Diary_reach_30) (h0 := h82) (K := ?_)
    rw [hN]
    refine r_imul hG (hd := d_Diary_reach_31) (K := ?_)
    rw [show (2 : Int) * (N : Int) = ((2 * N : Nat) : Int) by omega]
    refine r_grow hG d_Diary_reach_32 d_Diary_reach_35 hN (by omega) hz ⟨Nat.le_of_ble_eq_true rfl, Nat.le_of_ble_eq_true rfl⟩ ⟨Nat.le_of_ble_eq_true rfl, Nat.le_of_ble_eq_true rfl⟩ (Nat.le_of_ble_eq_true rfl) (fun q => ?_)
    refine r_vret hG d_Diary_reach_38 ⟨(Nat.le_of_ble_eq_true rfl), (Nat.le_of_ble_eq_true rfl)⟩ ?_
    exact ⟨rfl, q, by rw [if_pos (by omega)]⟩
end
section
/-! WHAT IS TOLD AND DONE -/
section TX
variable {Γ : Gm} {R : Room} {cc : ByteArray} {nL : Nat} {own : String} {ret : Option FieldType} {post : Option Value → St → Prop} {mc ms : Nat} {G : Nat × Nat → Nat → List (Nat × Value) → List Value → St → Prop} {cs : Nat × Nat} {pc n : Nat} {ls : List (Nat × Value)} {st stk : List Value} {S S1 : St}
theorem r_tsIn (hG : IsG Γ R cc nL own ret post mc ms G) {dflt lo hi off z : Int} {offs : Array Int} {len tgt : Nat} (hd : Dc cc pc (.tableswitch dflt lo hi offs) len n) (h : (¬ (iI z).toInt < lo ∧ ¬ hi < (iI z).toInt) ∧ offs[((iI z).toInt - lo).toNat]? = some off ∧ (pc : Int) + off = (tgt : Int)) (K : G cs tgt ls st S) : G cs pc ls (nt z :: st) S := by
  obtain ⟨p, e, s, m, args, below, meth, c, Q, hx, hb, hml, hown, hts, hK, hB, hX, hr, rfl⟩ := hG
  obtain ⟨hd, rfl⟩ := hd
  intro H locs la hP hD hS hl
  exact lv_tableIn hx hb hd h.1.1 h.1.2 h.2.1 h.2.2 (K H locs la hP hD hS hl)
theorem r_tsOut (hG : IsG Γ R cc nL own ret post mc ms G) {dflt lo hi z : Int} {offs : Array Int} {len tgt : Nat} (hd : Dc cc pc (.tableswitch dflt lo hi offs) len n) (h : ((iI z).toInt < lo ∨ hi < (iI z).toInt) ∧ (pc : Int) + dflt = (tgt : Int)) (K : G cs tgt ls st S) : G cs pc ls (nt z :: st) S := by
  obtain ⟨p, e, s, m, args, below, meth, c, Q, hx, hb, hml, hown, hts, hK, hB, hX, hr, rfl⟩ := hG
  obtain ⟨hd, rfl⟩ := hd
  intro H locs la hP hD hS hl
  exact lv_tableOut hx hb hd h.1 h.2 (K H locs la hP hD hS hl)
end TX
theorem ct_ckI {Γ : Gm} {S : St} {a b : Int} (h : 0 ≤ a ∧ a < b) (hb : b < 2147483648) : CT Γ y_Ward_checkIndex b_Ward_checkIndex 2 ((none : Option FieldType)) (rmx 1 0 0) [nt a, nt b] S (dX none S) := by
  refine CT.of (by first | exact plainFor_of_name (by rfl) | decide +kernel) (Nat.le_of_ble_eq_true rfl) ?_
  intro G hG
  show G (0, 0) 0 [(0, nt a), (1, nt b)] [] _
  refine r_iload_n hG (hl0 := rfl) (hd := d_Ward_checkIndex_0) (K := ?_)
  refine r_if_lt hG (hd := d_Ward_checkIndex_1) (kt := fun hh => absurd hh (by omega)) (kf := fun _ => ?_)
  refine r_iload_n hG (hl0 := rfl) (hd := d_Ward_checkIndex_4) (K := ?_)
  refine r_iload_n hG (hl0 := rfl) (hd := d_Ward_checkIndex_5) (K := ?_)
  refine r_icmp_lt hG (hd := d_Ward_checkIndex_6) (kt := fun _ => ?_) (kf := fun hh => absurd hh (by omega))
  refine r_vret hG d_Ward_checkIndex_20 ⟨(Nat.le_of_ble_eq_true rfl), (Nat.le_of_ble_eq_true rfl)⟩ ?_
  exact ⟨rfl, rfl⟩
theorem ct_ckV {Γ : Gm} {S : St} {a lo hi : Int} (h : lo ≤ a ∧ a ≤ hi) (hb : 0 ≤ lo ∧ hi < 2147483648) : CT Γ y_Ward_checkValue b_Ward_checkValue 3 ((none : Option FieldType)) (rmx 1 0 0) [nt a, nt lo, nt hi] S (dX none S) := by
  refine CT.of (by first | exact plainFor_of_name (by rfl) | decide +kernel) (Nat.le_of_ble_eq_true rfl) ?_
  intro G hG
  show G (0, 0) 0 [(0, nt a), (1, nt lo), (2, nt hi)] [] _
  refine r_iload_n hG (hl0 := rfl) (hd := d_Ward_checkValue_0) (K := ?_)
  refine r_iload_n hG (hl0 := rfl) (hd := d_Ward_checkValue_1) (K := ?_)
  refine r_icmp_lt hG (hd := d_Ward_checkValue_2) (kt := fun hh => absurd hh (by omega)) (kf := fun _ => ?_)
  refine r_iload_n hG (hl0 := rfl) (hd := d_Ward_checkValue_5) (K := ?_)
  refine r_iload_n hG (hl0 := rfl) (hd := d_Ward_checkValue_6) (K := ?_)
  refine r_icmp_le hG (hd := d_Ward_checkValue_7) (kt := fun _ => ?_) (kf := fun hh => absurd hh (by omega))
  refine r_vret hG d_Ward_checkValue_21 ⟨(Nat.le_of_ble_eq_true rfl), (Nat.le_of_ble_eq_true rfl)⟩ ?_
  exact ⟨rfl, rfl⟩
theorem ct_streetAt {Γ : Gm} {S : St} {n k : Nat} (hn : S 0 0 0 = (n : Int)) (hn6 : n ≤ 6) (hk : k < n) : CT Γ y_Ward_streetAt b_Ward_streetAt 2 ((some (FieldType.object "BinWard$Street"))) (rmx 2 0 0) [rf Γ 0 0, nt k] S (dX (some (rf Γ 15 (2 * k))) S) := by
  refine CT.of (by first | exact plainFor_of_name (by rfl) | decide +kernel) (Nat.le_of_ble_eq_true rfl) ?_
  intro G hG
  show G (0, 0) 0 [(0, rf Γ 0 0), (1, nt k)] [] _
  refine r_iload_n hG (hl0 := rfl) (hd := d_Ward_streetAt_0) (K := ?_)
  refine r_aload_n hG (hl0 := rfl) (hd := d_Ward_streetAt_1) (K := ?_)
  refine g_Ward_86 hG (hd := d_Ward_streetAt_2) (K := ?_)
  refine cSv hG w_Ward_107 d_Ward_streetAt_5 (ct_ckI (by omega) (by omega)) rfl rfl ⟨(Nat.le_of_ble_eq_true rfl), (Nat.le_of_ble_eq_true rfl)⟩ ⟨(Nat.le_of_ble_eq_true rfl), (Nat.le_of_ble_eq_true rfl)⟩ (Nat.le_of_ble_eq_true rfl) ?_
  refine r_aload_n hG (hl0 := rfl) (hd := d_Ward_streetAt_8) (K := ?_)
  refine g_Ward_11 hG (hd := d_Ward_streetAt_9) (K := ?_)
  refine r_iload_n hG (hl0 := rfl) (hd := d_Ward_streetAt_12) (K := ?_)
  first | refine a_1 hG (hd := d_Ward_streetAt_13) (hz := rfl) (hj := by omega) (hi := by omega) (K := ?_) | refine a_2 hG (hd := d_Ward_streetAt_13) (hz := rfl) (hj := by omega) (hi := by omega) (K := ?_) | refine a_10 hG (hd := d_Ward_streetAt_13) (hz := rfl) (hj := by omega) (hi := by omega) (K := ?_) | refine r_aald22 hG (hd := d_Ward_streetAt_13) (hz := rfl) (hj := by omega) (hi := by omega) (K := ?_)
  refine r_aret hG d_Ward_streetAt_14 ⟨(Nat.le_of_ble_eq_true rfl), (Nat.le_of_ble_eq_true rfl)⟩ (Or.inl ⟨_, rfl⟩) ⟨_, rfl⟩ ?_
  exact ⟨rfl, rfl⟩
theorem ct_lorryAt {Γ : Gm} {S : St} {n k : Nat} (hn : S 1 0 0 = (n : Int)) (hn3 : n ≤ 3) (hk : k < n) : CT Γ y_Ward_lorryAt b_Ward_lorryAt 2 ((some (FieldType.object "BinWard$Lorry"))) (rmx 2 0 0) [rf Γ 0 0, nt k] S (dX (some (rf Γ 20 k)) S) := by
  refine CT.of (by first | exact plainFor_of_name (by rfl) | decide +kernel) (Nat.le_of_ble_eq_true rfl) ?_
  intro G hG
  show G (0, 0) 0 [(0, rf Γ 0 0), (1, nt k)] [] _
  refine r_iload_n hG (hl0 := rfl) (hd := d_Ward_lorryAt_0) (K := ?_)
  refine r_aload_n hG (hl0 := rfl) (hd := d_Ward_lorryAt_1) (K := ?_)
  refine g_Ward_115 hG (hd := d_Ward_lorryAt_2) (K := ?_)
  refine cSv hG w_Ward_107 d_Ward_lorryAt_5 (ct_ckI (by omega) (by omega)) rfl rfl ⟨(Nat.le_of_ble_eq_true rfl), (Nat.le_of_ble_eq_true rfl)⟩ ⟨(Nat.le_of_ble_eq_true rfl), (Nat.le_of_ble_eq_true rfl)⟩ (Nat.le_of_ble_eq_true rfl) ?_
  refine r_aload_n hG (hl0 := rfl) (hd := d_Ward_lorryAt_8) (K := ?_)
  refine g_Ward_20 hG (hd := d_Ward_lorryAt_9) (K := ?_)
  refine r_iload_n hG (hl0 := rfl) (hd := d_Ward_lorryAt_12) (K := ?_)
  first | refine a_1 hG (hd := d_Ward_lorryAt_13) (hz := rfl) (hj := by omega) (hi := by omega) (K := ?_) | refine a_2 hG (hd := d_Ward_lorryAt_13) (hz := rfl) (hj := by omega) (hi := by omega) (K := ?_) | refine a_10 hG (hd := d_Ward_lorryAt_13) (hz := rfl) (hj := by omega) (hi := by omega) (K := ?_) | refine r_aald22 hG (hd := d_Ward_lorryAt_13) (hz := rfl) (hj := by omega) (hi := by omega) (K := ?_)
  refine r_aret hG d_Ward_lorryAt_14 ⟨(Nat.le_of_ble_eq_true rfl), (Nat.le_of_ble_eq_true rfl)⟩ (Or.inl ⟨_, rfl⟩) ⟨_, rfl⟩ ?_
  exact ⟨rfl, rfl⟩
theorem ct_baleAt {Γ : Gm} {S : St} {n k : Nat} (hn : S 52 0 0 = (n : Int)) (hn20 : n ≤ 20) (hk : k < n) : CT Γ y_Ward_baleAt b_Ward_baleAt 2 ((some (FieldType.object "BinWard$Bale"))) (rmx 2 0 0) [rf Γ 0 0, nt k] S (dX (some (rf Γ 11 k)) S) := by
  refine CT.of (by first | exact plainFor_of_name (by rfl) | decide +kernel) (Nat.le_of_ble_eq_true rfl) ?_
  intro G hG
  show G (0, 0) 0 [(0, rf Γ 0 0), (1, nt k)] [] _
  refine r_iload_n hG (hl0 := rfl) (hd := d_Ward_baleAt_0) (K := ?_)
  refine r_aload_n hG (hl0 := rfl) (hd := d_Ward_baleAt_1) (K := ?_)
  refine g_Ward_55 hG (hd := d_Ward_baleAt_2) (K := ?_)
  refine g_Ward_238 hG (hd := d_Ward_baleAt_5) (K := ?_)
  refine cSv hG w_Ward_107 d_Ward_baleAt_8 (ct_ckI (by omega) (by omega)) rfl rfl ⟨(Nat.le_of_ble_eq_true rfl), (Nat.le_of_ble_eq_true rfl)⟩ ⟨(Nat.le_of_ble_eq_true rfl), (Nat.le_of_ble_eq_true rfl)⟩ (Nat.le_of_ble_eq_true rfl) ?_
  refine r_aload_n hG (hl0 := rfl) (hd := d_Ward_baleAt_11) (K := ?_)
  refine g_Ward_55 hG (hd := d_Ward_baleAt_12) (K := ?_)
  refine g_Ward_416 hG (hd := d_Ward_baleAt_15) (K := ?_)
  refine r_iload_n hG (hl0 := rfl) (hd := d_Ward_baleAt_18) (K := ?_)
  first | refine a_1 hG (hd := d_Ward_baleAt_19) (hz := rfl) (hj := by omega) (hi := by omega) (K := ?_) | refine a_2 hG (hd := d_Ward_baleAt_19) (hz := rfl) (hj := by omega) (hi := by omega) (K := ?_) | refine a_10 hG (hd := d_Ward_baleAt_19) (hz := rfl) (hj := by omega) (hi := by omega) (K := ?_) | refine r_aald22 hG (hd := d_Ward_baleAt_19) (hz := rfl) (hj := by omega) (hi := by omega) (K := ?_)
  refine r_aret hG d_Ward_baleAt_20 ⟨(Nat.le_of_ble_eq_true rfl), (Nat.le_of_ble_eq_true rfl)⟩ (Or.inl ⟨_, rfl⟩) ⟨_, rfl⟩ ?_
  exact ⟨rfl, rfl⟩
def rupF (a b : Int) : Int := (a + b - 1) / b
theorem ct_rup {Γ : Gm} {S : St} {a b : Int} (ha : 0 ≤ a ∧ a < 1000000000) (hb : 0 < b ∧ b < 1000) : CT Γ y_Ward_roundedUp b_Ward_roundedUp 2 ((some FieldType.int)) (rmx 1 0 0) [nt a, nt b] S (dX (some (nt (rupF a b))) S) := by
  refine CT.of (by first | exact plainFor_of_name (by rfl) | decide +kernel) (Nat.le_of_ble_eq_true rfl) ?_
  intro G hG
  show G (0, 0) 0 [(0, nt a), (1, nt b)] [] _
  refine r_iload_n hG (hl0 := rfl) (hd := d_Ward_roundedUp_0) (K := ?_)
  refine r_if_gt hG (hd := d_Ward_roundedUp_1) (kt := fun _ => ?_) (kf := fun hh => absurd hh (by omega))
  refine r_iload_n hG (hl0 := rfl) (hd := d_Ward_roundedUp_8) (K := ?_)
  refine r_iload_n hG (hl0 := rfl) (hd := d_Ward_roundedUp_9) (K := ?_)
  first | refine r_iadd hG (hd := d_Ward_roundedUp_10) (K := ?_) | refine r_iaddr hG (hd := d_Ward_roundedUp_10) (K := ?_)
  refine r_iconst hG (hd := d_Ward_roundedUp_11) (K := ?_)
  first | refine r_isub hG (hd := d_Ward_roundedUp_12) (K := ?_) | refine r_isubr hG (hd := d_Ward_roundedUp_12) (K := ?_)
  refine r_iload_n hG (hl0 := rfl) (hd := d_Ward_roundedUp_13) (K := ?_)
  refine r_idiv hG (hr0 := by first | omega | (simp [sU]; omega)) (hd := d_Ward_roundedUp_14) (K := ?_)
  refine r_iret hG d_Ward_roundedUp_15 ⟨(Nat.le_of_ble_eq_true rfl), (Nat.le_of_ble_eq_true rfl)⟩ ?_
  exact ⟨rfl, rfl⟩
def ripF (S : St) : St :=
  let S1 := sU S 68 0 0 (S 68 0 0 + rupF (S 65 0 0) 10)
  let S2 := sU S1 67 0 0 (S1 67 0 0 + S 65 0 0 / 20)
  sU S2 65 0 0 (S2 65 0 0 - (rupF (S 65 0 0) 10 + S 65 0 0 / 20))
theorem ct_ripen {Γ : Gm} {S : St} (h : 0 ≤ S 65 0 0 ∧ S 65 0 0 < 1000000000) : CT Γ y_Heap_ripen b_Heap_ripen 3 ((none : Option FieldType)) (rmx 2 0 0) [rf Γ 13 0] S (dX none (ripF S)) := by
  refine CT.of (by first | exact plainFor_of_name (by rfl) | decide +kernel) (Nat.le_of_ble_eq_true rfl) ?_
  intro G hG
  show G (0, 0) 0 [(0, rf Γ 13 0)] [] _
  refine r_aload_n hG (hl0 := rfl) (hd := d_Heap_ripen_0) (K := ?_)
  refine g_Heap_7 hG (hd := d_Heap_ripen_1) (K := ?_)
  refine r_bipush hG (hd := d_Heap_ripen_4) (K := ?_)
  refine cNx hG w_Heap_19 d_Heap_ripen_6 (ct_rup h (by omega)) rfl rfl ⟨(Nat.le_of_ble_eq_true rfl), (Nat.le_of_ble_eq_true rfl)⟩ ⟨(Nat.le_of_ble_eq_true rfl), (Nat.le_of_ble_eq_true rfl)⟩ (Nat.le_of_ble_eq_true rfl) ?_
  refine r_istore_n hG (hd := d_Heap_ripen_9) (K := ?_)
  refine r_aload_n hG (hl0 := rfl) (hd := d_Heap_ripen_10) (K := ?_)
  refine g_Heap_7 hG (hd := d_Heap_ripen_11) (K := ?_)
  refine r_bipush hG (hd := d_Heap_ripen_14) (K := ?_)
  refine r_idiv hG (hr0 := by first | omega | (simp [sU]; omega)) (hd := d_Heap_ripen_16) (K := ?_)
  refine r_istore_n hG (hd := d_Heap_ripen_17) (K := ?_)
  refine r_aload_n hG (hl0 := rfl) (hd := d_Heap_ripen_18) (K := ?_)
  refine r_dup hG (hd := d_Heap_ripen_19) (K := ?_)
  refine g_Heap_25 hG (hd := d_Heap_ripen_20) (K := ?_)
  refine r_iload_n hG (hl0 := rfl) (hd := d_Heap_ripen_23) (K := ?_)
  first | refine r_iadd hG (hd := d_Heap_ripen_24) (K := ?_) | refine r_iaddr hG (hd := d_Heap_ripen_24) (K := ?_)
  refine p_Heap_25 hG (hd := d_Heap_ripen_25) (K := ?_)
  refine r_aload_n hG (hl0 := rfl) (hd := d_Heap_ripen_28) (K := ?_)
  refine r_dup hG (hd := d_Heap_ripen_29) (K := ?_)
  refine g_Heap_28 hG (hd := d_Heap_ripen_30) (K := ?_)
  refine r_iload_n hG (hl0 := rfl) (hd := d_Heap_ripen_33) (K := ?_)
  first | refine r_iadd hG (hd := d_Heap_ripen_34) (K := ?_) | refine r_iaddr hG (hd := d_Heap_ripen_34) (K := ?_)
  refine p_Heap_28 hG (hd := d_Heap_ripen_35) (K := ?_)
  refine r_aload_n hG (hl0 := rfl) (hd := d_Heap_ripen_38) (K := ?_)
  refine r_dup hG (hd := d_Heap_ripen_39) (K := ?_)
  refine g_Heap_7 hG (hd := d_Heap_ripen_40) (K := ?_)
  refine r_iload_n hG (hl0 := rfl) (hd := d_Heap_ripen_43) (K := ?_)
  refine r_iload_n hG (hl0 := rfl) (hd := d_Heap_ripen_44) (K := ?_)
  first | refine r_iadd hG (hd := d_Heap_ripen_45) (K := ?_) | refine r_iaddr hG (hd := d_Heap_ripen_45) (K := ?_)
  first | refine r_isub hG (hd := d_Heap_ripen_46) (K := ?_) | refine r_isubr hG (hd := d_Heap_ripen_46) (K := ?_)
  refine p_Heap_7 hG (hd := d_Heap_ripen_47) (K := ?_)
  refine r_vret hG d_Heap_ripen_50 ⟨(Nat.le_of_ble_eq_true rfl), (Nat.le_of_ble_eq_true rfl)⟩ ?_
  exact ⟨rfl, rfl⟩
def fetN (S : St) : Nat → Int
  | 0 => 0
  | k + 1 => fetN S k + S 24 k 0
theorem ct_fetchedEver {Γ : Gm} {S : St} {n : Nat} (hn : S 1 0 0 = (n : Int)) (hn3 : n ≤ 3) : CT Γ y_Ward_fetchedEver b_Ward_fetchedEver 3 ((some FieldType.int)) (rmx 1 0 0) [rf Γ 0 0] S (dX (some (nt (fetN S n))) S) := by
  refine CT.of (by first | exact plainFor_of_name (by rfl) | decide +kernel) (Nat.le_of_ble_eq_true rfl) ?_
  intro G hG
  show G (0, 0) 0 [(0, rf Γ 0 0)] [] _
  refine r_iconst hG (hd := d_Ward_fetchedEver_0) (K := ?_)
  refine r_istore_n hG (hd := d_Ward_fetchedEver_1) (K := ?_)
  refine r_iconst hG (hd := d_Ward_fetchedEver_2) (K := ?_)
  refine r_istore_n hG (hd := d_Ward_fetchedEver_3) (K := ?_)
  have loop : ∀ m i : Nat, i + m = n → G (0, 0) 4 [(0, rf Γ 0 0), (1, nt (fetN S i)), (2, nt i)] [] S := by
    intro m
    induction m with
    | zero =>
      intro i hi
      have hin : i = n := by omega
      subst hin
      refine r_iload_n hG (hl0 := rfl) (hd := d_Ward_fetchedEver_4) (K := ?_)
      refine r_aload_n hG (hl0 := rfl) (hd := d_Ward_fetchedEver_5) (K := ?_)
      refine g_Ward_115 hG (hd := d_Ward_fetchedEver_6) (K := ?_)
      refine r_icmp_ge hG (hd := d_Ward_fetchedEver_9) (kt := fun _ => ?_) (kf := fun hh => absurd hh (by omega))
      refine r_iload_n hG (hl0 := rfl) (hd := d_Ward_fetchedEver_30) (K := ?_)
      refine r_iret hG d_Ward_fetchedEver_31 ⟨(Nat.le_of_ble_eq_true rfl), (Nat.le_of_ble_eq_true rfl)⟩ ?_
      exact ⟨rfl, rfl⟩
    | succ m ih =>
      intro i hi
      refine r_iload_n hG (hl0 := rfl) (hd := d_Ward_fetchedEver_4) (K := ?_)
      refine r_aload_n hG (hl0 := rfl) (hd := d_Ward_fetchedEver_5) (K := ?_)
      refine g_Ward_115 hG (hd := d_Ward_fetchedEver_6) (K := ?_)
      refine r_icmp_ge hG (hd := d_Ward_fetchedEver_9) (kt := fun hh => absurd hh (by omega)) (kf := fun _ => ?_)
      refine r_iload_n hG (hl0 := rfl) (hd := d_Ward_fetchedEver_12) (K := ?_)
      refine r_aload_n hG (hl0 := rfl) (hd := d_Ward_fetchedEver_13) (K := ?_)
      refine g_Ward_20 hG (hd := d_Ward_fetchedEver_14) (K := ?_)
      refine r_iload_n hG (hl0 := rfl) (hd := d_Ward_fetchedEver_17) (K := ?_)
      first | refine a_1 hG (hd := d_Ward_fetchedEver_18) (hz := rfl) (hj := by omega) (hi := by omega) (K := ?_) | refine a_2 hG (hd := d_Ward_fetchedEver_18) (hz := rfl) (hj := by omega) (hi := by omega) (K := ?_) | refine a_10 hG (hd := d_Ward_fetchedEver_18) (hz := rfl) (hj := by omega) (hi := by omega) (K := ?_) | refine r_aald22 hG (hd := d_Ward_fetchedEver_18) (hz := rfl) (hj := by omega) (hi := by omega) (K := ?_)
      refine g_Ward_228 hG (hi := by omega) (hd := d_Ward_fetchedEver_19) (K := ?_)
      first | refine r_iadd hG (hd := d_Ward_fetchedEver_22) (K := ?_) | refine r_iaddr hG (hd := d_Ward_fetchedEver_22) (K := ?_)
      refine r_istore_n hG (hd := d_Ward_fetchedEver_23) (K := ?_)
      refine r_iinc hG (hl0 := rfl) (hd := d_Ward_fetchedEver_24) (K := ?_)
      refine r_goto hG (hd := d_Ward_fetchedEver_27) (K := ?_)
      exact r_sb hG (ih (i + 1) (by omega)) ⟨rfl, rfl, rfl, trivial⟩
  exact r_sb hG (loop n 0 (by omega)) ⟨rfl, rfl, rfl, trivial⟩
def litN (S : St) (w : Nat) : Nat → Int
  | 0 => 0
  | k + 1 => litN S w k + S 12 (2 * k + w) 0
theorem ct_litterIn {Γ : Gm} {S : St} {w n : Nat} (hw : w < 2) (hn : S 0 0 0 = (n : Int)) (hn6 : n ≤ 6) : CT Γ y_Ward_litterIn b_Ward_litterIn 4 ((some FieldType.int)) (rmx 1 0 0) [rf Γ 0 0, rf Γ 1 w] S (dX (some (nt (litN S w n))) S) := by
  refine CT.of (by first | exact plainFor_of_name (by rfl) | decide +kernel) (Nat.le_of_ble_eq_true rfl) ?_
  intro G hG
  show G (0, 0) 0 [(0, rf Γ 0 0), (1, rf Γ 1 w)] [] _
  refine r_iconst hG (hd := d_Ward_litterIn_0) (K := ?_)
  refine r_istore_n hG (hd := d_Ward_litterIn_1) (K := ?_)
  refine r_iconst hG (hd := d_Ward_litterIn_2) (K := ?_)
  refine r_istore_n hG (hd := d_Ward_litterIn_3) (K := ?_)
  have loop : ∀ m i : Nat, i + m = n → G (0, 0) 4 [(0, rf Γ 0 0), (1, rf Γ 1 w), (2, nt (litN S w i)), (3, nt i)] [] S := by
    intro m
    induction m with
    | zero =>
      intro i hi
      have hin : i = n := by omega
      subst hin
      refine r_iload_n hG (hl0 := rfl) (hd := d_Ward_litterIn_4) (K := ?_)
      refine r_aload_n hG (hl0 := rfl) (hd := d_Ward_litterIn_5) (K := ?_)
      refine g_Ward_86 hG (hd := d_Ward_litterIn_6) (K := ?_)
      refine r_icmp_ge hG (hd := d_Ward_litterIn_9) (kt := fun _ => ?_) (kf := fun hh => absurd hh (by omega))
      refine r_iload_n hG (hl0 := rfl) (hd := d_Ward_litterIn_27) (K := ?_)
      refine r_iret hG d_Ward_litterIn_28 ⟨(Nat.le_of_ble_eq_true rfl), (Nat.le_of_ble_eq_true rfl)⟩ ?_
      exact ⟨rfl, rfl⟩
    | succ m ih =>
      intro i hi
      refine r_iload_n hG (hl0 := rfl) (hd := d_Ward_litterIn_4) (K := ?_)
      refine r_aload_n hG (hl0 := rfl) (hd := d_Ward_litterIn_5) (K := ?_)
      refine g_Ward_86 hG (hd := d_Ward_litterIn_6) (K := ?_)
      refine r_icmp_ge hG (hd := d_Ward_litterIn_9) (kt := fun hh => absurd hh (by omega)) (kf := fun _ => ?_)
      refine r_iload_n hG (hl0 := rfl) (hd := d_Ward_litterIn_12) (K := ?_)
      refine r_aload_n hG (hl0 := rfl) (hd := d_Ward_litterIn_13) (K := ?_)
      refine r_iload_n hG (hl0 := rfl) (hd := d_Ward_litterIn_14) (K := ?_)
      first | refine a_1 hG (hd := d_Ward_litterIn_15) (hz := rfl) (hj := by omega) (hi := by omega) (K := ?_) | refine a_2 hG (hd := d_Ward_litterIn_15) (hz := rfl) (hj := by omega) (hi := by omega) (K := ?_) | refine a_10 hG (hd := d_Ward_litterIn_15) (hz := rfl) (hj := by omega) (hi := by omega) (K := ?_) | refine r_aald22 hG (hd := d_Ward_litterIn_15) (hz := rfl) (hj := by omega) (hi := by omega) (K := ?_)
      refine g_Ward_181 hG (hi := by omega) (hd := d_Ward_litterIn_16) (K := ?_)
      first | refine r_iadd hG (hd := d_Ward_litterIn_19) (K := ?_) | refine r_iaddr hG (hd := d_Ward_litterIn_19) (K := ?_)
      refine r_istore_n hG (hd := d_Ward_litterIn_20) (K := ?_)
      refine r_iinc hG (hl0 := rfl) (hd := d_Ward_litterIn_21) (K := ?_)
      refine r_goto hG (hd := d_Ward_litterIn_24) (K := ?_)
      exact r_sb hG (ih (i + 1) (by omega)) ⟨rfl, rfl, rfl, rfl, trivial⟩
  exact r_sb hG (loop n 0 (by omega)) ⟨rfl, rfl, rfl, rfl, trivial⟩
def streetS (S : St) (n : Nat) (p d : Int) : St := sU (sU (sU S 10 (2 * n) 0 p) 11 (2 * n) 0 d) 0 0 0 ((n : Int) + 1)
theorem ct_street {Γ : Gm} {S : St} {n : Nat} {p d : Int} (hn : S 0 0 0 = (n : Int)) (hn6 : n < 6) (hp : 1 ≤ p ∧ p ≤ 30) (hd : 0 ≤ d ∧ d ≤ 4) : CT Γ y_Ward_street b_Ward_street 4 ((some FieldType.int)) (rmx 2 0 0) [rf Γ 0 0, nt p, nt d] S (dX (some (nt n)) (streetS S n p d)) := by
  refine CT.of (by first | exact plainFor_of_name (by rfl) | decide +kernel) (Nat.le_of_ble_eq_true rfl) ?_
  intro G hG
  show G (0, 0) 0 [(0, rf Γ 0 0), (1, nt p), (2, nt d)] [] _
  refine r_iload_n hG (hl0 := rfl) (hd := d_Ward_street_0) (K := ?_)
  refine r_iconst hG (hd := d_Ward_street_1) (K := ?_)
  refine r_bipush hG (hd := d_Ward_street_2) (K := ?_)
  refine cSv hG w_Ward_82 d_Ward_street_4 (ct_ckV hp (by omega)) rfl rfl ⟨(Nat.le_of_ble_eq_true rfl), (Nat.le_of_ble_eq_true rfl)⟩ ⟨(Nat.le_of_ble_eq_true rfl), (Nat.le_of_ble_eq_true rfl)⟩ (Nat.le_of_ble_eq_true rfl) ?_
  refine r_iload_n hG (hl0 := rfl) (hd := d_Ward_street_7) (K := ?_)
  refine r_iconst hG (hd := d_Ward_street_8) (K := ?_)
  refine r_iconst hG (hd := d_Ward_street_9) (K := ?_)
  refine cSv hG w_Ward_82 d_Ward_street_10 (ct_ckV hd (by omega)) rfl rfl ⟨(Nat.le_of_ble_eq_true rfl), (Nat.le_of_ble_eq_true rfl)⟩ ⟨(Nat.le_of_ble_eq_true rfl), (Nat.le_of_ble_eq_true rfl)⟩ (Nat.le_of_ble_eq_true rfl) ?_
  refine r_aload_n hG (hl0 := rfl) (hd := d_Ward_street_13) (K := ?_)
  refine g_Ward_86 hG (hd := d_Ward_street_14) (K := ?_)
  refine r_bipush hG (hd := d_Ward_street_17) (K := ?_)
  refine r_icmp_lt hG (hd := d_Ward_street_19) (kt := fun _ => ?_) (kf := fun hh => absurd hh (by omega))
  refine r_aload_n hG (hl0 := rfl) (hd := d_Ward_street_32) (K := ?_)
  refine g_Ward_11 hG (hd := d_Ward_street_33) (K := ?_)
  refine r_aload_n hG (hl0 := rfl) (hd := d_Ward_street_36) (K := ?_)
  refine g_Ward_86 hG (hd := d_Ward_street_37) (K := ?_)
  rw [hn]
  first | refine a_1 hG (hd := d_Ward_street_40) (hz := rfl) (hj := by omega) (hi := by omega) (K := ?_) | refine a_2 hG (hd := d_Ward_street_40) (hz := rfl) (hj := by omega) (hi := by omega) (K := ?_) | refine a_10 hG (hd := d_Ward_street_40) (hz := rfl) (hj := by omega) (hi := by omega) (K := ?_) | refine r_aald22 hG (hd := d_Ward_street_40) (hz := rfl) (hj := by omega) (hi := by omega) (K := ?_)
  refine r_astore_n hG (hd := d_Ward_street_41) (K := ?_)
  refine r_aload_n hG (hl0 := rfl) (hd := d_Ward_street_42) (K := ?_)
  refine r_iload_n hG (hl0 := rfl) (hd := d_Ward_street_43) (K := ?_)
  refine p_Ward_97 hG (hi := by omega) (hd := d_Ward_street_44) (K := ?_)
  refine r_aload_n hG (hl0 := rfl) (hd := d_Ward_street_47) (K := ?_)
  refine r_iload_n hG (hl0 := rfl) (hd := d_Ward_street_48) (K := ?_)
  refine p_Ward_100 hG (hi := by omega) (hd := d_Ward_street_49) (K := ?_)
  refine r_aload_n hG (hl0 := rfl) (hd := d_Ward_street_52) (K := ?_)
  refine r_dup hG (hd := d_Ward_street_53) (K := ?_)
  refine g_Ward_86 hG (hd := d_Ward_street_54) (K := ?_)
  rw [show (sU (sU S 10 (2 * n + 0) 0 p) 11 (2 * n + 0) 0 d) 0 0 0 = (n : Int) by rw [sU_nf (by decide), sU_nf (by decide), hn]]
  refine r_iconst hG (hd := d_Ward_street_57) (K := ?_)
  first | refine r_iadd hG (hd := d_Ward_street_58) (K := ?_) | refine r_iaddr hG (hd := d_Ward_street_58) (K := ?_)
  refine p_Ward_86 hG (hd := d_Ward_street_59) (K := ?_)
  refine r_aload_n hG (hl0 := rfl) (hd := d_Ward_street_62) (K := ?_)
  refine g_Ward_86 hG (hd := d_Ward_street_63) (K := ?_)
  rw [sU_eq]
  refine r_iconst hG (hd := d_Ward_street_66) (K := ?_)
  first | refine r_isub hG (hd := d_Ward_street_67) (K := ?_) | refine r_isubr hG (hd := d_Ward_street_67) (K := ?_)
  refine r_iret hG d_Ward_street_68 ⟨(Nat.le_of_ble_eq_true rfl), (Nat.le_of_ble_eq_true rfl)⟩ ?_
  exact ⟨by rw [show (n : Int) + 1 - 1 = n by omega]; rfl, rfl⟩
theorem ct_habit {Γ : Gm} {S : St} {n k j : Nat} {z : Int} (hn : S 0 0 0 = (n : Int)) (hn6 : n ≤ 6) (hk : k < n) (hj : j < 3) (hz : 0 ≤ z ∧ z ≤ 9) : CT Γ y_Ward_habit b_Ward_habit 6 ((some FieldType.int)) (rmx 3 0 0) [rf Γ 0 0, nt k, nt j, nt z] S (dX (some (nt (S 15 (2 * k) j))) (sU S 15 (2 * k) j z)) := by
  refine CT.of (by first | exact plainFor_of_name (by rfl) | decide +kernel) (Nat.le_of_ble_eq_true rfl) ?_
  intro G hG
  show G (0, 0) 0 [(0, rf Γ 0 0), (1, nt k), (2, nt j), (3, nt z)] [] _
  refine r_aload_n hG (hl0 := rfl) (hd := d_Ward_habit_0) (K := ?_)
  refine r_iload_n hG (hl0 := rfl) (hd := d_Ward_habit_1) (K := ?_)
  refine cVx hG w_Ward_103 d_Ward_habit_2 (ct_streetAt hn hn6 hk) (by decide) (by decide) rc_0 rfl rfl ⟨(Nat.le_of_ble_eq_true rfl), (Nat.le_of_ble_eq_true rfl)⟩ ⟨(Nat.le_of_ble_eq_true rfl), (Nat.le_of_ble_eq_true rfl)⟩ (Nat.le_of_ble_eq_true rfl) ?_
  refine r_astore hG (hd := d_Ward_habit_5) (K := ?_)
  refine r_iload_n hG (hl0 := rfl) (hd := d_Ward_habit_7) (K := ?_)
  refine r_iconst hG (hd := d_Ward_habit_8) (K := ?_)
  refine cSv hG w_Ward_107 d_Ward_habit_9 (ct_ckI (by omega) (by omega)) rfl rfl ⟨(Nat.le_of_ble_eq_true rfl), (Nat.le_of_ble_eq_true rfl)⟩ ⟨(Nat.le_of_ble_eq_true rfl), (Nat.le_of_ble_eq_true rfl)⟩ (Nat.le_of_ble_eq_true rfl) ?_
  refine r_iload_n hG (hl0 := rfl) (hd := d_Ward_habit_12) (K := ?_)
  refine r_iconst hG (hd := d_Ward_habit_13) (K := ?_)
  refine r_bipush hG (hd := d_Ward_habit_14) (K := ?_)
  refine cSv hG w_Ward_82 d_Ward_habit_16 (ct_ckV hz (by omega)) rfl rfl ⟨(Nat.le_of_ble_eq_true rfl), (Nat.le_of_ble_eq_true rfl)⟩ ⟨(Nat.le_of_ble_eq_true rfl), (Nat.le_of_ble_eq_true rfl)⟩ (Nat.le_of_ble_eq_true rfl) ?_
  refine r_aload hG (hl0 := rfl) (hd := d_Ward_habit_19) (K := ?_)
  refine g_Ward_111 hG (hi := by omega) (hd := d_Ward_habit_21) (K := ?_)
  refine r_iload_n hG (hl0 := rfl) (hd := d_Ward_habit_24) (K := ?_)
  first | refine a_16 hG (hd := d_Ward_habit_25) (hz := rfl) (hj := by omega) (hi := by omega) (K := ?_) | refine a_17 hG (hd := d_Ward_habit_25) (hz := rfl) (hj := by omega) (hi := by omega) (K := ?_) | refine a_18 hG (hd := d_Ward_habit_25) (hz := rfl) (hj := by omega) (hi := by omega) (K := ?_) | refine a_19 hG (hd := d_Ward_habit_25) (hz := rfl) (hj := by omega) (hi := by omega) (K := ?_) | refine a_4 hG (hd := d_Ward_habit_25) (hz := rfl) (hj := by omega) (hi := by omega) (K := ?_) | refine a_5 hG (hd := d_Ward_habit_25) (hz := rfl) (hj := by omega) (hi := by omega) (K := ?_) | refine a_21 hG (hd := d_Ward_habit_25) (hz := rfl) (hj := by omega) (hi := by omega) (K := ?_) | refine a_23 hG (hd := d_Ward_habit_25) (hz := rfl) (hj := by omega) (hi := by omega) (K := ?_) | refine a_24 hG (hd := d_Ward_habit_25) (hz := rfl) (hj := by omega) (hi := by omega) (K := ?_)
  refine r_istore hG (hd := d_Ward_habit_26) (K := ?_)
  refine r_aload hG (hl0 := rfl) (hd := d_Ward_habit_28) (K := ?_)
  refine g_Ward_111 hG (hi := by omega) (hd := d_Ward_habit_30) (K := ?_)
  refine r_iload_n hG (hl0 := rfl) (hd := d_Ward_habit_33) (K := ?_)
  refine r_iload_n hG (hl0 := rfl) (hd := d_Ward_habit_34) (K := ?_)
  first | refine s_16 hG (hd := d_Ward_habit_35) (hz := rfl) (hj := by omega) (hi := by omega) (K := ?_) | refine s_17 hG (hd := d_Ward_habit_35) (hz := rfl) (hj := by omega) (hi := by omega) (K := ?_) | refine s_18 hG (hd := d_Ward_habit_35) (hz := rfl) (hj := by omega) (hi := by omega) (K := ?_) | refine s_19 hG (hd := d_Ward_habit_35) (hz := rfl) (hj := by omega) (hi := by omega) (K := ?_) | refine s_4 hG (hd := d_Ward_habit_35) (hz := rfl) (hj := by omega) (hi := by omega) (K := ?_) | refine s_5 hG (hd := d_Ward_habit_35) (hz := rfl) (hj := by omega) (hi := by omega) (K := ?_) | refine s_21 hG (hd := d_Ward_habit_35) (hz := rfl) (hj := by omega) (hi := by omega) (K := ?_) | refine s_23 hG (hd := d_Ward_habit_35) (hz := rfl) (hj := by omega) (hi := by omega) (K := ?_) | refine s_24 hG (hd := d_Ward_habit_35) (hz := rfl) (hj := by omega) (hi := by omega) (K := ?_)
  refine r_iload hG (hl0 := rfl) (hd := d_Ward_habit_36) (K := ?_)
  refine r_iret hG d_Ward_habit_38 ⟨(Nat.le_of_ble_eq_true rfl), (Nat.le_of_ble_eq_true rfl)⟩ ?_
  exact ⟨rfl, rfl⟩
theorem ct_dirt {Γ : Gm} {S : St} {n k : Nat} {z : Int} (hn : S 0 0 0 = (n : Int)) (hn6 : n ≤ 6) (hk : k < n) (hz : 0 ≤ z ∧ z ≤ 4) : CT Γ y_Ward_dirt b_Ward_dirt 5 ((some FieldType.int)) (rmx 3 0 0) [rf Γ 0 0, nt k, nt z] S (dX (some (nt (S 11 (2 * k) 0))) (sU S 11 (2 * k) 0 z)) := by
  refine CT.of (by first | exact plainFor_of_name (by rfl) | decide +kernel) (Nat.le_of_ble_eq_true rfl) ?_
  intro G hG
  show G (0, 0) 0 [(0, rf Γ 0 0), (1, nt k), (2, nt z)] [] _
  refine r_aload_n hG (hl0 := rfl) (hd := d_Ward_dirt_0) (K := ?_)
  refine r_iload_n hG (hl0 := rfl) (hd := d_Ward_dirt_1) (K := ?_)
  refine cVx hG w_Ward_103 d_Ward_dirt_2 (ct_streetAt hn hn6 hk) (by decide) (by decide) rc_0 rfl rfl ⟨(Nat.le_of_ble_eq_true rfl), (Nat.le_of_ble_eq_true rfl)⟩ ⟨(Nat.le_of_ble_eq_true rfl), (Nat.le_of_ble_eq_true rfl)⟩ (Nat.le_of_ble_eq_true rfl) ?_
  refine r_astore_n hG (hd := d_Ward_dirt_5) (K := ?_)
  refine r_iload_n hG (hl0 := rfl) (hd := d_Ward_dirt_6) (K := ?_)
  refine r_iconst hG (hd := d_Ward_dirt_7) (K := ?_)
  refine r_iconst hG (hd := d_Ward_dirt_8) (K := ?_)
  refine cSv hG w_Ward_82 d_Ward_dirt_9 (ct_ckV hz (by omega)) rfl rfl ⟨(Nat.le_of_ble_eq_true rfl), (Nat.le_of_ble_eq_true rfl)⟩ ⟨(Nat.le_of_ble_eq_true rfl), (Nat.le_of_ble_eq_true rfl)⟩ (Nat.le_of_ble_eq_true rfl) ?_
  refine r_aload_n hG (hl0 := rfl) (hd := d_Ward_dirt_12) (K := ?_)
  refine g_Ward_100 hG (hi := by omega) (hd := d_Ward_dirt_13) (K := ?_)
  refine r_istore hG (hd := d_Ward_dirt_16) (K := ?_)
  refine r_aload_n hG (hl0 := rfl) (hd := d_Ward_dirt_18) (K := ?_)
  refine r_iload_n hG (hl0 := rfl) (hd := d_Ward_dirt_19) (K := ?_)
  refine p_Ward_100 hG (hi := by omega) (hd := d_Ward_dirt_20) (K := ?_)
  refine r_iload hG (hl0 := rfl) (hd := d_Ward_dirt_23) (K := ?_)
  refine r_iret hG d_Ward_dirt_25 ⟨(Nat.le_of_ble_eq_true rfl), (Nat.le_of_ble_eq_true rfl)⟩ ?_
  exact ⟨rfl, rfl⟩
def lorryS (S : St) (n : Nat) (h a b : Int) : St := sU (sU (sU (sU S 20 n 0 h) 25 n 0 a) 25 n 1 b) 1 0 0 ((n : Int) + 1)
theorem ct_lorry {Γ : Gm} {S : St} {n : Nat} {h a b : Int} (hn : S 1 0 0 = (n : Int)) (hn3 : n < 3) (hh : 10 ≤ h ∧ h ≤ 120) (ha : 0 ≤ a ∧ a ≤ 2) (hb : 0 ≤ b ∧ b ≤ 2) : CT Γ y_Ward_lorry b_Ward_lorry 5 ((some FieldType.int)) (rmx 2 0 0) [rf Γ 0 0, nt h, nt a, nt b] S (dX (some (nt n)) (lorryS S n h a b)) := by
  refine CT.of (by first | exact plainFor_of_name (by rfl) | decide +kernel) (Nat.le_of_ble_eq_true rfl) ?_
  intro G hG
  show G (0, 0) 0 [(0, rf Γ 0 0), (1, nt h), (2, nt a), (3, nt b)] [] _
  refine r_iload_n hG (hl0 := rfl) (hd := d_Ward_lorry_0) (K := ?_)
  refine r_bipush hG (hd := d_Ward_lorry_1) (K := ?_)
  refine r_bipush hG (hd := d_Ward_lorry_3) (K := ?_)
  refine cSv hG w_Ward_82 d_Ward_lorry_5 (ct_ckV hh (by omega)) rfl rfl ⟨(Nat.le_of_ble_eq_true rfl), (Nat.le_of_ble_eq_true rfl)⟩ ⟨(Nat.le_of_ble_eq_true rfl), (Nat.le_of_ble_eq_true rfl)⟩ (Nat.le_of_ble_eq_true rfl) ?_
  refine r_iload_n hG (hl0 := rfl) (hd := d_Ward_lorry_8) (K := ?_)
  refine r_iconst hG (hd := d_Ward_lorry_9) (K := ?_)
  refine r_iconst hG (hd := d_Ward_lorry_10) (K := ?_)
  refine cSv hG w_Ward_82 d_Ward_lorry_11 (ct_ckV ha (by omega)) rfl rfl ⟨(Nat.le_of_ble_eq_true rfl), (Nat.le_of_ble_eq_true rfl)⟩ ⟨(Nat.le_of_ble_eq_true rfl), (Nat.le_of_ble_eq_true rfl)⟩ (Nat.le_of_ble_eq_true rfl) ?_
  refine r_iload_n hG (hl0 := rfl) (hd := d_Ward_lorry_14) (K := ?_)
  refine r_iconst hG (hd := d_Ward_lorry_15) (K := ?_)
  refine r_iconst hG (hd := d_Ward_lorry_16) (K := ?_)
  refine cSv hG w_Ward_82 d_Ward_lorry_17 (ct_ckV hb (by omega)) rfl rfl ⟨(Nat.le_of_ble_eq_true rfl), (Nat.le_of_ble_eq_true rfl)⟩ ⟨(Nat.le_of_ble_eq_true rfl), (Nat.le_of_ble_eq_true rfl)⟩ (Nat.le_of_ble_eq_true rfl) ?_
  refine r_aload_n hG (hl0 := rfl) (hd := d_Ward_lorry_20) (K := ?_)
  refine g_Ward_115 hG (hd := d_Ward_lorry_21) (K := ?_)
  refine r_iconst hG (hd := d_Ward_lorry_24) (K := ?_)
  refine r_icmp_lt hG (hd := d_Ward_lorry_25) (kt := fun _ => ?_) (kf := fun hh => absurd hh (by omega))
  refine r_aload_n hG (hl0 := rfl) (hd := d_Ward_lorry_38) (K := ?_)
  refine g_Ward_20 hG (hd := d_Ward_lorry_39) (K := ?_)
  refine r_aload_n hG (hl0 := rfl) (hd := d_Ward_lorry_42) (K := ?_)
  refine g_Ward_115 hG (hd := d_Ward_lorry_43) (K := ?_)
  rw [hn]
  first | refine a_1 hG (hd := d_Ward_lorry_46) (hz := rfl) (hj := by omega) (hi := by omega) (K := ?_) | refine a_2 hG (hd := d_Ward_lorry_46) (hz := rfl) (hj := by omega) (hi := by omega) (K := ?_) | refine a_10 hG (hd := d_Ward_lorry_46) (hz := rfl) (hj := by omega) (hi := by omega) (K := ?_) | refine r_aald22 hG (hd := d_Ward_lorry_46) (hz := rfl) (hj := by omega) (hi := by omega) (K := ?_)
  refine r_astore hG (hd := d_Ward_lorry_47) (K := ?_)
  refine r_aload hG (hl0 := rfl) (hd := d_Ward_lorry_49) (K := ?_)
  refine r_iload_n hG (hl0 := rfl) (hd := d_Ward_lorry_51) (K := ?_)
  refine p_Ward_120 hG (hi := by omega) (hd := d_Ward_lorry_52) (K := ?_)
  refine r_aload hG (hl0 := rfl) (hd := d_Ward_lorry_55) (K := ?_)
  refine g_Ward_123 hG (hi := by omega) (hd := d_Ward_lorry_57) (K := ?_)
  refine r_iconst hG (hd := d_Ward_lorry_60) (K := ?_)
  refine r_iload_n hG (hl0 := rfl) (hd := d_Ward_lorry_61) (K := ?_)
  refine s_21 hG (j := 0) (hd := d_Ward_lorry_62) (hz := rfl) (hj := by omega) (hi := by omega) (K := ?_)
  refine r_aload hG (hl0 := rfl) (hd := d_Ward_lorry_63) (K := ?_)
  refine g_Ward_123 hG (hi := by omega) (hd := d_Ward_lorry_65) (K := ?_)
  refine r_iconst hG (hd := d_Ward_lorry_68) (K := ?_)
  refine r_iload_n hG (hl0 := rfl) (hd := d_Ward_lorry_69) (K := ?_)
  refine s_21 hG (j := 1) (hd := d_Ward_lorry_70) (hz := rfl) (hj := by omega) (hi := by omega) (K := ?_)
  refine r_aload_n hG (hl0 := rfl) (hd := d_Ward_lorry_71) (K := ?_)
  refine r_dup hG (hd := d_Ward_lorry_72) (K := ?_)
  refine g_Ward_115 hG (hd := d_Ward_lorry_73) (K := ?_)
  rw [show (sU (sU (sU S 20 n 0 h) 25 n 0 a) 25 n 1 b) 1 0 0 = (n : Int) by rw [sU_nf (by decide), sU_nf (by decide), sU_nf (by decide), hn]]
  refine r_iconst hG (hd := d_Ward_lorry_76) (K := ?_)
  first | refine r_iadd hG (hd := d_Ward_lorry_77) (K := ?_) | refine r_iaddr hG (hd := d_Ward_lorry_77) (K := ?_)
  refine p_Ward_115 hG (hd := d_Ward_lorry_78) (K := ?_)
  refine r_aload_n hG (hl0 := rfl) (hd := d_Ward_lorry_81) (K := ?_)
  refine g_Ward_115 hG (hd := d_Ward_lorry_82) (K := ?_)
  rw [sU_eq]
  refine r_iconst hG (hd := d_Ward_lorry_85) (K := ?_)
  first | refine r_isub hG (hd := d_Ward_lorry_86) (K := ?_) | refine r_isubr hG (hd := d_Ward_lorry_86) (K := ?_)
  refine r_iret hG d_Ward_lorry_87 ⟨(Nat.le_of_ble_eq_true rfl), (Nat.le_of_ble_eq_true rfl)⟩ ?_
  exact ⟨by rw [show (n : Int) + 1 - 1 = n by omega]; rfl, rfl⟩
theorem ct_round {Γ : Gm} {S : St} {ns nl i d e n : Nat} (hns : S 0 0 0 = (ns : Int)) (hns6 : ns ≤ 6) (hnl : S 1 0 0 = (nl : Int)) (hnl3 : nl ≤ 3) (hi : i < nl) (hd : d < 7) (he : e < ns) (hn : n < 6) (hl : S 26 i d = (n : Int)) (hr : ∀ q, q < 6 → ∃ e : Nat, e < 6 ∧ S 27 (7 * i + d) q = (e : Int)) (hno : ∀ q, q < n → S 27 (7 * i + d) q ≠ (e : Int)) :
    CT Γ y_Ward_round b_Ward_round 5 ((some FieldType.int)) (rmx 3 0 0) [rf Γ 0 0, nt i, nt d, nt e] S (dX (some (nt ((n : Int) + 1))) (addR S i d e n)) := by
  refine CT.of (by first | exact plainFor_of_name (by rfl) | decide +kernel) (Nat.le_of_ble_eq_true rfl) ?_
  intro G hG
  show G (0, 0) 0 [(0, rf Γ 0 0), (1, nt i), (2, nt d), (3, nt e)] [] _
  refine r_aload_n hG (hl0 := rfl) (hd := d_Ward_round_0) (K := ?_)
  refine r_iload_n hG (hl0 := rfl) (hd := d_Ward_round_1) (K := ?_)
  refine cVx hG w_Ward_126 d_Ward_round_2 (ct_lorryAt hnl hnl3 hi) (by decide) (by decide) rc_0 rfl rfl ⟨(Nat.le_of_ble_eq_true rfl), (Nat.le_of_ble_eq_true rfl)⟩ ⟨(Nat.le_of_ble_eq_true rfl), (Nat.le_of_ble_eq_true rfl)⟩ (Nat.le_of_ble_eq_true rfl) ?_
  refine r_astore hG (hd := d_Ward_round_5) (K := ?_)
  refine r_iload_n hG (hl0 := rfl) (hd := d_Ward_round_7) (K := ?_)
  refine r_bipush hG (hd := d_Ward_round_8) (K := ?_)
  refine cSv hG w_Ward_107 d_Ward_round_10 (ct_ckI (by omega) (by omega)) rfl rfl ⟨(Nat.le_of_ble_eq_true rfl), (Nat.le_of_ble_eq_true rfl)⟩ ⟨(Nat.le_of_ble_eq_true rfl), (Nat.le_of_ble_eq_true rfl)⟩ (Nat.le_of_ble_eq_true rfl) ?_
  refine r_iload_n hG (hl0 := rfl) (hd := d_Ward_round_13) (K := ?_)
  refine r_aload_n hG (hl0 := rfl) (hd := d_Ward_round_14) (K := ?_)
  refine g_Ward_86 hG (hd := d_Ward_round_15) (K := ?_)
  refine cSv hG w_Ward_107 d_Ward_round_18 (ct_ckI (by omega) (by omega)) rfl rfl ⟨(Nat.le_of_ble_eq_true rfl), (Nat.le_of_ble_eq_true rfl)⟩ ⟨(Nat.le_of_ble_eq_true rfl), (Nat.le_of_ble_eq_true rfl)⟩ (Nat.le_of_ble_eq_true rfl) ?_
  refine r_aload hG (hl0 := rfl) (hd := d_Ward_round_21) (K := ?_)
  refine r_iload_n hG (hl0 := rfl) (hd := d_Ward_round_23) (K := ?_)
  refine r_iload_n hG (hl0 := rfl) (hd := d_Ward_round_24) (K := ?_)
  refine cVx hG w_Ward_130 d_Ward_round_25 (ct_comesTo_no (by omega) hd (by omega) (by omega) hl hr hno) (by decide) (by show _ < 3; omega) rc_20 rfl rfl ⟨(Nat.le_of_ble_eq_true rfl), (Nat.le_of_ble_eq_true rfl)⟩ ⟨(Nat.le_of_ble_eq_true rfl), (Nat.le_of_ble_eq_true rfl)⟩ (Nat.le_of_ble_eq_true rfl) ?_
  refine r_if_eq hG (hd := d_Ward_round_28) (kt := fun _ => ?_) (kf := fun hh => absurd hh (by omega))
  refine r_aload hG (hl0 := rfl) (hd := d_Ward_round_41) (K := ?_)
  refine r_iload_n hG (hl0 := rfl) (hd := d_Ward_round_43) (K := ?_)
  refine r_iload_n hG (hl0 := rfl) (hd := d_Ward_round_44) (K := ?_)
  refine cVv hG w_Ward_136 d_Ward_round_45 (ct_addToRound (by omega) hd hn hl) (by decide) (by show _ < 3; omega) rc_20 rfl rfl ⟨(Nat.le_of_ble_eq_true rfl), (Nat.le_of_ble_eq_true rfl)⟩ ⟨(Nat.le_of_ble_eq_true rfl), (Nat.le_of_ble_eq_true rfl)⟩ (Nat.le_of_ble_eq_true rfl) ?_
  refine r_aload hG (hl0 := rfl) (hd := d_Ward_round_48) (K := ?_)
  refine g_Ward_139 hG (hi := by omega) (hd := d_Ward_round_50) (K := ?_)
  refine r_iload_n hG (hl0 := rfl) (hd := d_Ward_round_53) (K := ?_)
  first | refine a_16 hG (hd := d_Ward_round_54) (hz := rfl) (hj := by omega) (hi := by omega) (K := ?_) | refine a_17 hG (hd := d_Ward_round_54) (hz := rfl) (hj := by omega) (hi := by omega) (K := ?_) | refine a_18 hG (hd := d_Ward_round_54) (hz := rfl) (hj := by omega) (hi := by omega) (K := ?_) | refine a_19 hG (hd := d_Ward_round_54) (hz := rfl) (hj := by omega) (hi := by omega) (K := ?_) | refine a_4 hG (hd := d_Ward_round_54) (hz := rfl) (hj := by omega) (hi := by omega) (K := ?_) | refine a_5 hG (hd := d_Ward_round_54) (hz := rfl) (hj := by omega) (hi := by omega) (K := ?_) | refine a_21 hG (hd := d_Ward_round_54) (hz := rfl) (hj := by omega) (hi := by omega) (K := ?_) | refine a_23 hG (hd := d_Ward_round_54) (hz := rfl) (hj := by omega) (hi := by omega) (K := ?_) | refine a_24 hG (hd := d_Ward_round_54) (hz := rfl) (hj := by omega) (hi := by omega) (K := ?_)
  refine r_iret hG d_Ward_round_55 ⟨(Nat.le_of_ble_eq_true rfl), (Nat.le_of_ble_eq_true rfl)⟩ ?_
  exact ⟨by rw [addR, sU_eq]; rfl, rfl⟩
theorem ct_clear {Γ : Gm} {S : St} {nl i d : Nat} (hnl : S 1 0 0 = (nl : Int)) (hnl3 : nl ≤ 3) (hi : i < nl) (hd : d < 7) : CT Γ y_Ward_clear b_Ward_clear 5 ((some FieldType.int)) (rmx 3 0 0) [rf Γ 0 0, nt i, nt d] S (dX (some (nt (S 26 i d))) (sU S 26 i d 0)) := by
  refine CT.of (by first | exact plainFor_of_name (by rfl) | decide +kernel) (Nat.le_of_ble_eq_true rfl) ?_
  intro G hG
  show G (0, 0) 0 [(0, rf Γ 0 0), (1, nt i), (2, nt d)] [] _
  refine r_aload_n hG (hl0 := rfl) (hd := d_Ward_clear_0) (K := ?_)
  refine r_iload_n hG (hl0 := rfl) (hd := d_Ward_clear_1) (K := ?_)
  refine cVx hG w_Ward_126 d_Ward_clear_2 (ct_lorryAt hnl hnl3 hi) (by decide) (by decide) rc_0 rfl rfl ⟨(Nat.le_of_ble_eq_true rfl), (Nat.le_of_ble_eq_true rfl)⟩ ⟨(Nat.le_of_ble_eq_true rfl), (Nat.le_of_ble_eq_true rfl)⟩ (Nat.le_of_ble_eq_true rfl) ?_
  refine r_astore_n hG (hd := d_Ward_clear_5) (K := ?_)
  refine r_iload_n hG (hl0 := rfl) (hd := d_Ward_clear_6) (K := ?_)
  refine r_bipush hG (hd := d_Ward_clear_7) (K := ?_)
  refine cSv hG w_Ward_107 d_Ward_clear_9 (ct_ckI (by omega) (by omega)) rfl rfl ⟨(Nat.le_of_ble_eq_true rfl), (Nat.le_of_ble_eq_true rfl)⟩ ⟨(Nat.le_of_ble_eq_true rfl), (Nat.le_of_ble_eq_true rfl)⟩ (Nat.le_of_ble_eq_true rfl) ?_
  refine r_aload_n hG (hl0 := rfl) (hd := d_Ward_clear_12) (K := ?_)
  refine g_Ward_139 hG (hi := by omega) (hd := d_Ward_clear_13) (K := ?_)
  refine r_iload_n hG (hl0 := rfl) (hd := d_Ward_clear_16) (K := ?_)
  first | refine a_16 hG (hd := d_Ward_clear_17) (hz := rfl) (hj := by omega) (hi := by omega) (K := ?_) | refine a_17 hG (hd := d_Ward_clear_17) (hz := rfl) (hj := by omega) (hi := by omega) (K := ?_) | refine a_18 hG (hd := d_Ward_clear_17) (hz := rfl) (hj := by omega) (hi := by omega) (K := ?_) | refine a_19 hG (hd := d_Ward_clear_17) (hz := rfl) (hj := by omega) (hi := by omega) (K := ?_) | refine a_4 hG (hd := d_Ward_clear_17) (hz := rfl) (hj := by omega) (hi := by omega) (K := ?_) | refine a_5 hG (hd := d_Ward_clear_17) (hz := rfl) (hj := by omega) (hi := by omega) (K := ?_) | refine a_21 hG (hd := d_Ward_clear_17) (hz := rfl) (hj := by omega) (hi := by omega) (K := ?_) | refine a_23 hG (hd := d_Ward_clear_17) (hz := rfl) (hj := by omega) (hi := by omega) (K := ?_) | refine a_24 hG (hd := d_Ward_clear_17) (hz := rfl) (hj := by omega) (hi := by omega) (K := ?_)
  refine r_istore hG (hd := d_Ward_clear_18) (K := ?_)
  refine r_aload_n hG (hl0 := rfl) (hd := d_Ward_clear_20) (K := ?_)
  refine g_Ward_139 hG (hi := by omega) (hd := d_Ward_clear_21) (K := ?_)
  refine r_iload_n hG (hl0 := rfl) (hd := d_Ward_clear_24) (K := ?_)
  refine r_iconst hG (hd := d_Ward_clear_25) (K := ?_)
  first | refine s_16 hG (hd := d_Ward_clear_26) (hz := rfl) (hj := by omega) (hi := by omega) (K := ?_) | refine s_17 hG (hd := d_Ward_clear_26) (hz := rfl) (hj := by omega) (hi := by omega) (K := ?_) | refine s_18 hG (hd := d_Ward_clear_26) (hz := rfl) (hj := by omega) (hi := by omega) (K := ?_) | refine s_19 hG (hd := d_Ward_clear_26) (hz := rfl) (hj := by omega) (hi := by omega) (K := ?_) | refine s_4 hG (hd := d_Ward_clear_26) (hz := rfl) (hj := by omega) (hi := by omega) (K := ?_) | refine s_5 hG (hd := d_Ward_clear_26) (hz := rfl) (hj := by omega) (hi := by omega) (K := ?_) | refine s_21 hG (hd := d_Ward_clear_26) (hz := rfl) (hj := by omega) (hi := by omega) (K := ?_) | refine s_23 hG (hd := d_Ward_clear_26) (hz := rfl) (hj := by omega) (hi := by omega) (K := ?_) | refine s_24 hG (hd := d_Ward_clear_26) (hz := rfl) (hj := by omega) (hi := by omega) (K := ?_)
  refine r_iload hG (hl0 := rfl) (hd := d_Ward_clear_27) (K := ?_)
  refine r_iret hG d_Ward_clear_29 ⟨(Nat.le_of_ble_eq_true rfl), (Nat.le_of_ble_eq_true rfl)⟩ ?_
  exact ⟨rfl, rfl⟩
theorem ct_eye {Γ : Gm} {S : St} {z : Int} (hz : 0 ≤ z ∧ z ≤ 100) : CT Γ y_Ward_eye b_Ward_eye 3 ((some FieldType.int)) (rmx 2 0 0) [rf Γ 0 0, nt z] S (dX (some (nt (S 45 0 0))) (sU S 45 0 0 z)) := by
  refine CT.of (by first | exact plainFor_of_name (by rfl) | decide +kernel) (Nat.le_of_ble_eq_true rfl) ?_
  intro G hG
  show G (0, 0) 0 [(0, rf Γ 0 0), (1, nt z)] [] _
  refine r_iload_n hG (hl0 := rfl) (hd := d_Ward_eye_0) (K := ?_)
  refine r_iconst hG (hd := d_Ward_eye_1) (K := ?_)
  refine r_bipush hG (hd := d_Ward_eye_2) (K := ?_)
  refine cSv hG w_Ward_82 d_Ward_eye_4 (ct_ckV hz (by omega)) rfl rfl ⟨(Nat.le_of_ble_eq_true rfl), (Nat.le_of_ble_eq_true rfl)⟩ ⟨(Nat.le_of_ble_eq_true rfl), (Nat.le_of_ble_eq_true rfl)⟩ (Nat.le_of_ble_eq_true rfl) ?_
  refine r_aload_n hG (hl0 := rfl) (hd := d_Ward_eye_7) (K := ?_)
  refine g_Ward_48 hG (hd := d_Ward_eye_8) (K := ?_)
  refine g_Ward_142 hG (hd := d_Ward_eye_11) (K := ?_)
  refine r_istore_n hG (hd := d_Ward_eye_14) (K := ?_)
  refine r_aload_n hG (hl0 := rfl) (hd := d_Ward_eye_15) (K := ?_)
  refine g_Ward_48 hG (hd := d_Ward_eye_16) (K := ?_)
  refine r_iload_n hG (hl0 := rfl) (hd := d_Ward_eye_19) (K := ?_)
  refine p_Ward_142 hG (hd := d_Ward_eye_20) (K := ?_)
  refine r_iload_n hG (hl0 := rfl) (hd := d_Ward_eye_23) (K := ?_)
  refine r_iret hG d_Ward_eye_24 ⟨(Nat.le_of_ble_eq_true rfl), (Nat.le_of_ble_eq_true rfl)⟩ ?_
  exact ⟨rfl, rfl⟩
theorem ct_hand {Γ : Gm} {S : St} {z : Int} (hz : 0 ≤ z ∧ z ≤ 50) : CT Γ y_Ward_hand b_Ward_hand 3 ((some FieldType.int)) (rmx 2 0 0) [rf Γ 0 0, nt z] S (dX (some (nt (S 46 0 0))) (sU S 46 0 0 z)) := by
  refine CT.of (by first | exact plainFor_of_name (by rfl) | decide +kernel) (Nat.le_of_ble_eq_true rfl) ?_
  intro G hG
  show G (0, 0) 0 [(0, rf Γ 0 0), (1, nt z)] [] _
  refine r_iload_n hG (hl0 := rfl) (hd := d_Ward_hand_0) (K := ?_)
  refine r_iconst hG (hd := d_Ward_hand_1) (K := ?_)
  refine r_bipush hG (hd := d_Ward_hand_2) (K := ?_)
  refine cSv hG w_Ward_82 d_Ward_hand_4 (ct_ckV hz (by omega)) rfl rfl ⟨(Nat.le_of_ble_eq_true rfl), (Nat.le_of_ble_eq_true rfl)⟩ ⟨(Nat.le_of_ble_eq_true rfl), (Nat.le_of_ble_eq_true rfl)⟩ (Nat.le_of_ble_eq_true rfl) ?_
  refine r_aload_n hG (hl0 := rfl) (hd := d_Ward_hand_7) (K := ?_)
  refine g_Ward_48 hG (hd := d_Ward_hand_8) (K := ?_)
  refine g_Ward_145 hG (hd := d_Ward_hand_11) (K := ?_)
  refine r_istore_n hG (hd := d_Ward_hand_14) (K := ?_)
  refine r_aload_n hG (hl0 := rfl) (hd := d_Ward_hand_15) (K := ?_)
  refine g_Ward_48 hG (hd := d_Ward_hand_16) (K := ?_)
  refine r_iload_n hG (hl0 := rfl) (hd := d_Ward_hand_19) (K := ?_)
  refine p_Ward_145 hG (hd := d_Ward_hand_20) (K := ?_)
  refine r_iload_n hG (hl0 := rfl) (hd := d_Ward_hand_23) (K := ?_)
  refine r_iret hG d_Ward_hand_24 ⟨(Nat.le_of_ble_eq_true rfl), (Nat.le_of_ble_eq_true rfl)⟩ ?_
  exact ⟨rfl, rfl⟩
theorem ct_oven {Γ : Gm} {S : St} {z : Int} (hz : 0 ≤ z ∧ z ≤ 200) : CT Γ y_Ward_oven b_Ward_oven 3 ((some FieldType.int)) (rmx 2 0 0) [rf Γ 0 0, nt z] S (dX (some (nt (S 60 0 0))) (sU S 60 0 0 z)) := by
  refine CT.of (by first | exact plainFor_of_name (by rfl) | decide +kernel) (Nat.le_of_ble_eq_true rfl) ?_
  intro G hG
  show G (0, 0) 0 [(0, rf Γ 0 0), (1, nt z)] [] _
  refine r_iload_n hG (hl0 := rfl) (hd := d_Ward_oven_0) (K := ?_)
  refine r_iconst hG (hd := d_Ward_oven_1) (K := ?_)
  refine r_sipush hG (hd := d_Ward_oven_2) (K := ?_)
  refine cSv hG w_Ward_82 d_Ward_oven_5 (ct_ckV hz (by omega)) rfl rfl ⟨(Nat.le_of_ble_eq_true rfl), (Nat.le_of_ble_eq_true rfl)⟩ ⟨(Nat.le_of_ble_eq_true rfl), (Nat.le_of_ble_eq_true rfl)⟩ (Nat.le_of_ble_eq_true rfl) ?_
  refine r_aload_n hG (hl0 := rfl) (hd := d_Ward_oven_8) (K := ?_)
  refine g_Ward_62 hG (hd := d_Ward_oven_9) (K := ?_)
  refine g_Ward_148 hG (hd := d_Ward_oven_12) (K := ?_)
  refine r_istore_n hG (hd := d_Ward_oven_15) (K := ?_)
  refine r_aload_n hG (hl0 := rfl) (hd := d_Ward_oven_16) (K := ?_)
  refine g_Ward_62 hG (hd := d_Ward_oven_17) (K := ?_)
  refine r_iload_n hG (hl0 := rfl) (hd := d_Ward_oven_20) (K := ?_)
  refine p_Ward_148 hG (hd := d_Ward_oven_21) (K := ?_)
  refine r_iload_n hG (hl0 := rfl) (hd := d_Ward_oven_24) (K := ?_)
  refine r_iret hG d_Ward_oven_25 ⟨(Nat.le_of_ble_eq_true rfl), (Nat.le_of_ble_eq_true rfl)⟩ ?_
  exact ⟨rfl, rfl⟩
def sellS (S : St) (b : Nat) (lim pr : Int) : St := if S 56 b 0 ≤ lim then sU (sU S 57 b 0 1) 3 0 0 (S 3 0 0 + pr) else sU (sU S 57 b 0 2) 3 0 0 (S 3 0 0 + -15)
theorem ct_sell {Γ : Gm} {S : St} {n b : Nat} {lim pr : Int} (hn : S 52 0 0 = (n : Int)) (hn20 : n ≤ 20) (hb : b < n) (hl : 0 ≤ lim ∧ lim ≤ 40) (hp : 1 ≤ pr ∧ pr ≤ 99) (hs : S 57 b 0 = 0) (hd : 0 ≤ S 56 b 0 ∧ S 56 b 0 ≤ 100) : CT Γ y_Ward_sell b_Ward_sell 6 ((some FieldType.boolean)) (rmx 3 0 0) [rf Γ 0 0, nt b, nt lim, nt pr] S (dX (some (nt (if S 56 b 0 ≤ lim then 1 else 0))) (sellS S b lim pr)) := by
  unfold sellS
  refine CT.of (by first | exact plainFor_of_name (by rfl) | decide +kernel) (Nat.le_of_ble_eq_true rfl) ?_
  intro G hG
  show G (0, 0) 0 [(0, rf Γ 0 0), (1, nt b), (2, nt lim), (3, nt pr)] [] _
  refine r_aload_n hG (hl0 := rfl) (hd := d_Ward_sell_0) (K := ?_)
  refine r_iload_n hG (hl0 := rfl) (hd := d_Ward_sell_1) (K := ?_)
  refine cVx hG w_Ward_155 d_Ward_sell_2 (ct_baleAt hn hn20 hb) (by decide) (by decide) rc_0 rfl rfl ⟨(Nat.le_of_ble_eq_true rfl), (Nat.le_of_ble_eq_true rfl)⟩ ⟨(Nat.le_of_ble_eq_true rfl), (Nat.le_of_ble_eq_true rfl)⟩ (Nat.le_of_ble_eq_true rfl) ?_
  refine r_astore hG (hd := d_Ward_sell_5) (K := ?_)
  refine r_iload_n hG (hl0 := rfl) (hd := d_Ward_sell_7) (K := ?_)
  refine r_iconst hG (hd := d_Ward_sell_8) (K := ?_)
  refine r_bipush hG (hd := d_Ward_sell_9) (K := ?_)
  refine cSv hG w_Ward_82 d_Ward_sell_11 (ct_ckV hl (by omega)) rfl rfl ⟨(Nat.le_of_ble_eq_true rfl), (Nat.le_of_ble_eq_true rfl)⟩ ⟨(Nat.le_of_ble_eq_true rfl), (Nat.le_of_ble_eq_true rfl)⟩ (Nat.le_of_ble_eq_true rfl) ?_
  refine r_iload_n hG (hl0 := rfl) (hd := d_Ward_sell_14) (K := ?_)
  refine r_iconst hG (hd := d_Ward_sell_15) (K := ?_)
  refine r_bipush hG (hd := d_Ward_sell_16) (K := ?_)
  refine cSv hG w_Ward_82 d_Ward_sell_18 (ct_ckV hp (by omega)) rfl rfl ⟨(Nat.le_of_ble_eq_true rfl), (Nat.le_of_ble_eq_true rfl)⟩ ⟨(Nat.le_of_ble_eq_true rfl), (Nat.le_of_ble_eq_true rfl)⟩ (Nat.le_of_ble_eq_true rfl) ?_
  refine r_aload hG (hl0 := rfl) (hd := d_Ward_sell_21) (K := ?_)
  refine g_Ward_159 hG (hi := by omega) (hd := d_Ward_sell_23) (K := ?_)
  refine r_if_eq hG (hd := d_Ward_sell_26) (kt := fun _ => ?_) (kf := fun hh => absurd hh (by omega))
  refine r_aload hG (hl0 := rfl) (hd := d_Ward_sell_39) (K := ?_)
  refine g_Ward_166 hG (hi := by omega) (hd := d_Ward_sell_41) (K := ?_)
  refine r_iload_n hG (hl0 := rfl) (hd := d_Ward_sell_44) (K := ?_)
  refine r_icmp_gt hG (hd := d_Ward_sell_45) (kt := fun h => ?_) (kf := fun h => ?_)
  · refine r_iconst hG (hd := d_Ward_sell_52) (K := ?_)
    refine r_istore hG (hd := d_Ward_sell_53) (K := ?_)
    refine r_aload hG (hl0 := rfl) (hd := d_Ward_sell_55) (K := ?_)
    refine r_iload hG (hl0 := rfl) (hd := d_Ward_sell_57) (K := ?_)
    refine r_if_eq hG (hd := d_Ward_sell_59) (kt := fun _ => ?_) (kf := fun hh => absurd hh (by omega))
    refine r_iconst hG (hd := d_Ward_sell_66) (K := ?_)
    refine p_Ward_159 hG (hi := by omega) (hd := d_Ward_sell_67) (K := ?_)
    refine r_aload_n hG (hl0 := rfl) (hd := d_Ward_sell_70) (K := ?_)
    refine r_dup hG (hd := d_Ward_sell_71) (K := ?_)
    refine g_Ward_169 hG (hd := d_Ward_sell_72) (K := ?_)
    refine r_iload hG (hl0 := rfl) (hd := d_Ward_sell_75) (K := ?_)
    refine r_if_eq hG (hd := d_Ward_sell_77) (kt := fun _ => ?_) (kf := fun hh => absurd hh (by omega))
    refine r_bipush hG (hd := d_Ward_sell_84) (K := ?_)
    first | refine r_iadd hG (hd := d_Ward_sell_86) (K := ?_) | refine r_iaddr hG (hd := d_Ward_sell_86) (K := ?_)
    refine p_Ward_169 hG (hd := d_Ward_sell_87) (K := ?_)
    refine r_iload hG (hl0 := rfl) (hd := d_Ward_sell_90) (K := ?_)
    refine r_zret hG d_Ward_sell_92 ⟨(Nat.le_of_ble_eq_true rfl), (Nat.le_of_ble_eq_true rfl)⟩ (by first | exact Or.inl rfl | exact Or.inr rfl | omega) ?_
    exact ⟨by rw [if_neg (by omega)], by rw [if_neg (by omega), sU_nf (by decide)]⟩
  · refine r_iconst hG (hd := d_Ward_sell_48) (K := ?_)
    refine r_goto hG (hd := d_Ward_sell_49) (K := ?_)
    refine r_istore hG (hd := d_Ward_sell_53) (K := ?_)
    refine r_aload hG (hl0 := rfl) (hd := d_Ward_sell_55) (K := ?_)
    refine r_iload hG (hl0 := rfl) (hd := d_Ward_sell_57) (K := ?_)
    refine r_if_eq hG (hd := d_Ward_sell_59) (kt := fun hh => absurd hh (by omega)) (kf := fun _ => ?_)
    refine r_iconst hG (hd := d_Ward_sell_62) (K := ?_)
    refine r_goto hG (hd := d_Ward_sell_63) (K := ?_)
    refine p_Ward_159 hG (hi := by omega) (hd := d_Ward_sell_67) (K := ?_)
    refine r_aload_n hG (hl0 := rfl) (hd := d_Ward_sell_70) (K := ?_)
    refine r_dup hG (hd := d_Ward_sell_71) (K := ?_)
    refine g_Ward_169 hG (hd := d_Ward_sell_72) (K := ?_)
    refine r_iload hG (hl0 := rfl) (hd := d_Ward_sell_75) (K := ?_)
    refine r_if_eq hG (hd := d_Ward_sell_77) (kt := fun hh => absurd hh (by omega)) (kf := fun _ => ?_)
    refine r_iload_n hG (hl0 := rfl) (hd := d_Ward_sell_80) (K := ?_)
    refine r_goto hG (hd := d_Ward_sell_81) (K := ?_)
    first | refine r_iadd hG (hd := d_Ward_sell_86) (K := ?_) | refine r_iaddr hG (hd := d_Ward_sell_86) (K := ?_)
    refine p_Ward_169 hG (hd := d_Ward_sell_87) (K := ?_)
    refine r_iload hG (hl0 := rfl) (hd := d_Ward_sell_90) (K := ?_)
    refine r_zret hG d_Ward_sell_92 ⟨(Nat.le_of_ble_eq_true rfl), (Nat.le_of_ble_eq_true rfl)⟩ (by first | exact Or.inl rfl | exact Or.inr rfl | omega) ?_
    exact ⟨by rw [if_pos (by omega)], by rw [if_pos (by omega), sU_nf (by decide)]⟩
theorem ct_opn {Γ : Gm} {S : St} {n b : Nat} (hn : S 52 0 0 = (n : Int)) (hn20 : n ≤ 20) (hb : b < n) (hs : S 57 b 0 = 2) : CT Γ y_Ward_opn b_Ward_opn 3 ((some FieldType.int)) (rmx 3 0 0) [rf Γ 0 0, nt b] S (dX (some (nt (unpF S b 50 0 0 + unpF S b 51 0 0))) (unpF S b)) := by
  refine CT.of (by first | exact plainFor_of_name (by rfl) | decide +kernel) (Nat.le_of_ble_eq_true rfl) ?_
  intro G hG
  show G (0, 0) 0 [(0, rf Γ 0 0), (1, nt b)] [] _
  refine r_aload_n hG (hl0 := rfl) (hd := d_Ward_opn_0) (K := ?_)
  refine r_iload_n hG (hl0 := rfl) (hd := d_Ward_opn_1) (K := ?_)
  refine cVx hG w_Ward_155 d_Ward_opn_2 (ct_baleAt hn hn20 hb) (by decide) (by decide) rc_0 rfl rfl ⟨(Nat.le_of_ble_eq_true rfl), (Nat.le_of_ble_eq_true rfl)⟩ ⟨(Nat.le_of_ble_eq_true rfl), (Nat.le_of_ble_eq_true rfl)⟩ (Nat.le_of_ble_eq_true rfl) ?_
  refine r_astore_n hG (hd := d_Ward_opn_5) (K := ?_)
  refine r_aload_n hG (hl0 := rfl) (hd := d_Ward_opn_6) (K := ?_)
  refine g_Ward_159 hG (hi := by omega) (hd := d_Ward_opn_7) (K := ?_)
  refine r_iconst hG (hd := d_Ward_opn_10) (K := ?_)
  refine r_icmp_eq hG (hd := d_Ward_opn_11) (kt := fun _ => ?_) (kf := fun hh => absurd hh (by omega))
  refine r_aload_n hG (hl0 := rfl) (hd := d_Ward_opn_24) (K := ?_)
  refine g_Ward_55 hG (hd := d_Ward_opn_25) (K := ?_)
  refine r_aload_n hG (hl0 := rfl) (hd := d_Ward_opn_28) (K := ?_)
  refine cVv hG w_Ward_174 d_Ward_opn_29 (ct_unpack (by omega)) (by decide) (by decide) rc_9 rfl rfl ⟨(Nat.le_of_ble_eq_true rfl), (Nat.le_of_ble_eq_true rfl)⟩ ⟨(Nat.le_of_ble_eq_true rfl), (Nat.le_of_ble_eq_true rfl)⟩ (Nat.le_of_ble_eq_true rfl) ?_
  refine r_aload_n hG (hl0 := rfl) (hd := d_Ward_opn_32) (K := ?_)
  refine g_Ward_55 hG (hd := d_Ward_opn_33) (K := ?_)
  refine cVx hG w_Ward_178 d_Ward_opn_36 (ct_bkilos) (by decide) (by decide) rc_9 rfl rfl ⟨(Nat.le_of_ble_eq_true rfl), (Nat.le_of_ble_eq_true rfl)⟩ ⟨(Nat.le_of_ble_eq_true rfl), (Nat.le_of_ble_eq_true rfl)⟩ (Nat.le_of_ble_eq_true rfl) ?_
  refine r_iret hG d_Ward_opn_39 ⟨(Nat.le_of_ble_eq_true rfl), (Nat.le_of_ble_eq_true rfl)⟩ ?_
  exact ⟨rfl, rfl⟩
def sweepS (S : St) (k : Nat) : St := pitIn (sU S 12 (2 * k) 0 0) (S 12 (2 * k) 0) (S 12 (2 * k) 0 / 2)
theorem ct_sweep {Γ : Gm} {S : St} {n k : Nat} (hn : S 0 0 0 = (n : Int)) (hn6 : n ≤ 6) (hk : k < n) (hl : 0 ≤ S 12 (2 * k) 0 ∧ S 12 (2 * k) 0 < 1000000000) : CT Γ y_Ward_sweep b_Ward_sweep 4 ((some FieldType.int)) (rmx 3 0 0) [rf Γ 0 0, nt k] S (dX (some (nt (S 12 (2 * k) 0))) (sweepS S k)) := by
  refine CT.of (by first | exact plainFor_of_name (by rfl) | decide +kernel) (Nat.le_of_ble_eq_true rfl) ?_
  intro G hG
  show G (0, 0) 0 [(0, rf Γ 0 0), (1, nt k)] [] _
  refine r_aload_n hG (hl0 := rfl) (hd := d_Ward_sweep_0) (K := ?_)
  refine r_iload_n hG (hl0 := rfl) (hd := d_Ward_sweep_1) (K := ?_)
  refine cVx hG w_Ward_103 d_Ward_sweep_2 (ct_streetAt hn hn6 hk) (by decide) (by decide) rc_0 rfl rfl ⟨(Nat.le_of_ble_eq_true rfl), (Nat.le_of_ble_eq_true rfl)⟩ ⟨(Nat.le_of_ble_eq_true rfl), (Nat.le_of_ble_eq_true rfl)⟩ (Nat.le_of_ble_eq_true rfl) ?_
  refine r_astore_n hG (hd := d_Ward_sweep_5) (K := ?_)
  refine r_aload_n hG (hl0 := rfl) (hd := d_Ward_sweep_6) (K := ?_)
  refine g_Ward_181 hG (hi := by omega) (hd := d_Ward_sweep_7) (K := ?_)
  refine r_istore_n hG (hd := d_Ward_sweep_10) (K := ?_)
  refine r_aload_n hG (hl0 := rfl) (hd := d_Ward_sweep_11) (K := ?_)
  refine r_iconst hG (hd := d_Ward_sweep_12) (K := ?_)
  refine p_Ward_181 hG (hi := by omega) (hd := d_Ward_sweep_13) (K := ?_)
  refine r_aload_n hG (hl0 := rfl) (hd := d_Ward_sweep_16) (K := ?_)
  refine g_Ward_76 hG (hd := d_Ward_sweep_17) (K := ?_)
  refine r_iload_n hG (hl0 := rfl) (hd := d_Ward_sweep_20) (K := ?_)
  refine r_iload_n hG (hl0 := rfl) (hd := d_Ward_sweep_21) (K := ?_)
  refine r_iconst hG (hd := d_Ward_sweep_22) (K := ?_)
  refine r_idiv hG (hr0 := by first | omega | (simp [sU]; omega)) (hd := d_Ward_sweep_23) (K := ?_)
  refine cVv hG w_Ward_184 d_Ward_sweep_24 (ct_pitIn (by omega)) (by decide) (by decide) rc_14 rfl rfl ⟨(Nat.le_of_ble_eq_true rfl), (Nat.le_of_ble_eq_true rfl)⟩ ⟨(Nat.le_of_ble_eq_true rfl), (Nat.le_of_ble_eq_true rfl)⟩ (Nat.le_of_ble_eq_true rfl) ?_
  refine r_iload_n hG (hl0 := rfl) (hd := d_Ward_sweep_27) (K := ?_)
  refine r_iret hG d_Ward_sweep_28 ⟨(Nat.le_of_ble_eq_true rfl), (Nat.le_of_ble_eq_true rfl)⟩ ?_
  exact ⟨rfl, rfl⟩
end
section
/-! WHAT ONE ASKS -/
def stF (S : St) (t w : Nat) : Int := match w with
  | 0 => S 10 t 0
  | 1 => S 11 t 0
  | 2 => S 12 t 0
  | 3 => S 15 t 0
  | 4 => S 15 t 1
  | 5 => S 15 t 2
  | 6 => S 16 t 0
  | 7 => S 16 t 1
  | 8 => S 16 t 2
  | 9 => S 17 t 1
  | 10 => S 17 t 2
  | 11 => 3 * S 18 t 0 + S 18 t 2 - 2 * S 13 t 0
  | _ => S 14 t 0
theorem ct_ofStreet {Γ : Gm} {S : St} {n k w : Nat} (hn : S 0 0 0 = (n : Int)) (hn6 : n ≤ 6) (hk : k < n) (hw : w < 13) : CT Γ y_Ward_ofStreet b_Ward_ofStreet 4 ((some FieldType.int)) (rmx 3 0 0) [rf Γ 0 0, nt k, nt w] S (dX (some (nt (stF S (2 * k) w))) S) := by
  match w, hw with
  | 0, _ =>
    refine CT.of (by first | exact plainFor_of_name (by rfl) | decide +kernel) (Nat.le_of_ble_eq_true rfl) ?_
    intro G hG
    show G (0, 0) 0 [(0, rf Γ 0 0), (1, nt k), (2, nt ((0 : Nat) : Int))] [] _
    refine r_aload_n hG (hl0 := rfl) (hd := d_Ward_ofStreet_0) (K := ?_)
    refine r_iload_n hG (hl0 := rfl) (hd := d_Ward_ofStreet_1) (K := ?_)
    refine cVx hG w_Ward_103 d_Ward_ofStreet_2 (ct_streetAt hn hn6 hk) (by decide) (by decide) rc_0 rfl rfl ⟨(Nat.le_of_ble_eq_true rfl), (Nat.le_of_ble_eq_true rfl)⟩ ⟨(Nat.le_of_ble_eq_true rfl), (Nat.le_of_ble_eq_true rfl)⟩ (Nat.le_of_ble_eq_true rfl) ?_
    refine r_astore_n hG (hd := d_Ward_ofStreet_5) (K := ?_)
    refine r_iload_n hG (hl0 := rfl) (hd := d_Ward_ofStreet_6) (K := ?_)
    refine r_iconst hG (hd := d_Ward_ofStreet_7) (K := ?_)
    refine r_bipush hG (hd := d_Ward_ofStreet_8) (K := ?_)
    refine cSv hG w_Ward_82 d_Ward_ofStreet_10 (ct_ckV (by omega) (by omega)) rfl rfl ⟨(Nat.le_of_ble_eq_true rfl), (Nat.le_of_ble_eq_true rfl)⟩ ⟨(Nat.le_of_ble_eq_true rfl), (Nat.le_of_ble_eq_true rfl)⟩ (Nat.le_of_ble_eq_true rfl) ?_
    refine r_iload_n hG (hl0 := rfl) (hd := d_Ward_ofStreet_13) (K := ?_)
    refine r_tsIn hG (tgt := 76) (off := 62) (hd := d_Ward_ofStreet_14) (h := by decide +kernel) (K := ?_)
    refine r_aload_n hG (hl0 := rfl) (hd := d_Ward_ofStreet_76) (K := ?_)
    refine g_Ward_97 hG (hi := by omega) (hd := d_Ward_ofStreet_77) (K := ?_)
    refine r_iret hG d_Ward_ofStreet_80 ⟨(Nat.le_of_ble_eq_true rfl), (Nat.le_of_ble_eq_true rfl)⟩ ?_
    exact ⟨rfl, rfl⟩
  | 1, _ =>
    refine CT.of (by first | exact plainFor_of_name (by rfl) | decide +kernel) (Nat.le_of_ble_eq_true rfl) ?_
    intro G hG
    show G (0, 0) 0 [(0, rf Γ 0 0), (1, nt k), (2, nt ((1 : Nat) : Int))] [] _
    refine r_aload_n hG (hl0 := rfl) (hd := d_Ward_ofStreet_0) (K := ?_)
    refine r_iload_n hG (hl0 := rfl) (hd := d_Ward_ofStreet_1) (K := ?_)
    refine cVx hG w_Ward_103 d_Ward_ofStreet_2 (ct_streetAt hn hn6 hk) (by decide) (by decide) rc_0 rfl rfl ⟨(Nat.le_of_ble_eq_true rfl), (Nat.le_of_ble_eq_true rfl)⟩ ⟨(Nat.le_of_ble_eq_true rfl), (Nat.le_of_ble_eq_true rfl)⟩ (Nat.le_of_ble_eq_true rfl) ?_
    refine r_astore_n hG (hd := d_Ward_ofStreet_5) (K := ?_)
    refine r_iload_n hG (hl0 := rfl) (hd := d_Ward_ofStreet_6) (K := ?_)
    refine r_iconst hG (hd := d_Ward_ofStreet_7) (K := ?_)
    refine r_bipush hG (hd := d_Ward_ofStreet_8) (K := ?_)
    refine cSv hG w_Ward_82 d_Ward_ofStreet_10 (ct_ckV (by omega) (by omega)) rfl rfl ⟨(Nat.le_of_ble_eq_true rfl), (Nat.le_of_ble_eq_true rfl)⟩ ⟨(Nat.le_of_ble_eq_true rfl), (Nat.le_of_ble_eq_true rfl)⟩ (Nat.le_of_ble_eq_true rfl) ?_
    refine r_iload_n hG (hl0 := rfl) (hd := d_Ward_ofStreet_13) (K := ?_)
    refine r_tsIn hG (tgt := 81) (off := 67) (hd := d_Ward_ofStreet_14) (h := by decide +kernel) (K := ?_)
    refine r_aload_n hG (hl0 := rfl) (hd := d_Ward_ofStreet_81) (K := ?_)
    refine g_Ward_100 hG (hi := by omega) (hd := d_Ward_ofStreet_82) (K := ?_)
    refine r_iret hG d_Ward_ofStreet_85 ⟨(Nat.le_of_ble_eq_true rfl), (Nat.le_of_ble_eq_true rfl)⟩ ?_
    exact ⟨rfl, rfl⟩
  | 2, _ =>
    refine CT.of (by first | exact plainFor_of_name (by rfl) | decide +kernel) (Nat.le_of_ble_eq_true rfl) ?_
    intro G hG
    show G (0, 0) 0 [(0, rf Γ 0 0), (1, nt k), (2, nt ((2 : Nat) : Int))] [] _
    refine r_aload_n hG (hl0 := rfl) (hd := d_Ward_ofStreet_0) (K := ?_)
    refine r_iload_n hG (hl0 := rfl) (hd := d_Ward_ofStreet_1) (K := ?_)
    refine cVx hG w_Ward_103 d_Ward_ofStreet_2 (ct_streetAt hn hn6 hk) (by decide) (by decide) rc_0 rfl rfl ⟨(Nat.le_of_ble_eq_true rfl), (Nat.le_of_ble_eq_true rfl)⟩ ⟨(Nat.le_of_ble_eq_true rfl), (Nat.le_of_ble_eq_true rfl)⟩ (Nat.le_of_ble_eq_true rfl) ?_
    refine r_astore_n hG (hd := d_Ward_ofStreet_5) (K := ?_)
    refine r_iload_n hG (hl0 := rfl) (hd := d_Ward_ofStreet_6) (K := ?_)
    refine r_iconst hG (hd := d_Ward_ofStreet_7) (K := ?_)
    refine r_bipush hG (hd := d_Ward_ofStreet_8) (K := ?_)
    refine cSv hG w_Ward_82 d_Ward_ofStreet_10 (ct_ckV (by omega) (by omega)) rfl rfl ⟨(Nat.le_of_ble_eq_true rfl), (Nat.le_of_ble_eq_true rfl)⟩ ⟨(Nat.le_of_ble_eq_true rfl), (Nat.le_of_ble_eq_true rfl)⟩ (Nat.le_of_ble_eq_true rfl) ?_
    refine r_iload_n hG (hl0 := rfl) (hd := d_Ward_ofStreet_13) (K := ?_)
    refine r_tsIn hG (tgt := 86) (off := 72) (hd := d_Ward_ofStreet_14) (h := by decide +kernel) (K := ?_)
    refine r_aload_n hG (hl0 := rfl) (hd := d_Ward_ofStreet_86) (K := ?_)
    refine g_Ward_181 hG (hi := by omega) (hd := d_Ward_ofStreet_87) (K := ?_)
    refine r_iret hG d_Ward_ofStreet_90 ⟨(Nat.le_of_ble_eq_true rfl), (Nat.le_of_ble_eq_true rfl)⟩ ?_
    exact ⟨rfl, rfl⟩
  | 3, _ =>
    refine CT.of (by first | exact plainFor_of_name (by rfl) | decide +kernel) (Nat.le_of_ble_eq_true rfl) ?_
    intro G hG
    show G (0, 0) 0 [(0, rf Γ 0 0), (1, nt k), (2, nt ((3 : Nat) : Int))] [] _
    refine r_aload_n hG (hl0 := rfl) (hd := d_Ward_ofStreet_0) (K := ?_)
    refine r_iload_n hG (hl0 := rfl) (hd := d_Ward_ofStreet_1) (K := ?_)
    refine cVx hG w_Ward_103 d_Ward_ofStreet_2 (ct_streetAt hn hn6 hk) (by decide) (by decide) rc_0 rfl rfl ⟨(Nat.le_of_ble_eq_true rfl), (Nat.le_of_ble_eq_true rfl)⟩ ⟨(Nat.le_of_ble_eq_true rfl), (Nat.le_of_ble_eq_true rfl)⟩ (Nat.le_of_ble_eq_true rfl) ?_
    refine r_astore_n hG (hd := d_Ward_ofStreet_5) (K := ?_)
    refine r_iload_n hG (hl0 := rfl) (hd := d_Ward_ofStreet_6) (K := ?_)
    refine r_iconst hG (hd := d_Ward_ofStreet_7) (K := ?_)
    refine r_bipush hG (hd := d_Ward_ofStreet_8) (K := ?_)
    refine cSv hG w_Ward_82 d_Ward_ofStreet_10 (ct_ckV (by omega) (by omega)) rfl rfl ⟨(Nat.le_of_ble_eq_true rfl), (Nat.le_of_ble_eq_true rfl)⟩ ⟨(Nat.le_of_ble_eq_true rfl), (Nat.le_of_ble_eq_true rfl)⟩ (Nat.le_of_ble_eq_true rfl) ?_
    refine r_iload_n hG (hl0 := rfl) (hd := d_Ward_ofStreet_13) (K := ?_)
    refine r_tsIn hG (tgt := 91) (off := 77) (hd := d_Ward_ofStreet_14) (h := by decide +kernel) (K := ?_)
    refine r_aload_n hG (hl0 := rfl) (hd := d_Ward_ofStreet_91) (K := ?_)
    refine g_Ward_111 hG (hi := by omega) (hd := d_Ward_ofStreet_92) (K := ?_)
    refine r_iconst hG (hd := d_Ward_ofStreet_95) (K := ?_)
    first | refine a_16 hG (j := 0) (hd := d_Ward_ofStreet_96) (hz := rfl) (hj := by omega) (hi := by omega) (K := ?_) | refine a_17 hG (j := 0) (hd := d_Ward_ofStreet_96) (hz := rfl) (hj := by omega) (hi := by omega) (K := ?_) | refine a_18 hG (j := 0) (hd := d_Ward_ofStreet_96) (hz := rfl) (hj := by omega) (hi := by omega) (K := ?_) | refine a_19 hG (j := 0) (hd := d_Ward_ofStreet_96) (hz := rfl) (hj := by omega) (hi := by omega) (K := ?_) | refine a_4 hG (j := 0) (hd := d_Ward_ofStreet_96) (hz := rfl) (hj := by omega) (hi := by omega) (K := ?_) | refine a_5 hG (j := 0) (hd := d_Ward_ofStreet_96) (hz := rfl) (hj := by omega) (hi := by omega) (K := ?_) | refine a_21 hG (j := 0) (hd := d_Ward_ofStreet_96) (hz := rfl) (hj := by omega) (hi := by omega) (K := ?_) | refine a_23 hG (j := 0) (hd := d_Ward_ofStreet_96) (hz := rfl) (hj := by omega) (hi := by omega) (K := ?_) | refine a_24 hG (j := 0) (hd := d_Ward_ofStreet_96) (hz := rfl) (hj := by omega) (hi := by omega) (K := ?_)
    refine r_iret hG d_Ward_ofStreet_97 ⟨(Nat.le_of_ble_eq_true rfl), (Nat.le_of_ble_eq_true rfl)⟩ ?_
    exact ⟨rfl, rfl⟩
  | 4, _ =>
    refine CT.of (by first | exact plainFor_of_name (by rfl) | decide +kernel) (Nat.le_of_ble_eq_true rfl) ?_
    intro G hG
    show G (0, 0) 0 [(0, rf Γ 0 0), (1, nt k), (2, nt ((4 : Nat) : Int))] [] _
    refine r_aload_n hG (hl0 := rfl) (hd := d_Ward_ofStreet_0) (K := ?_)
    refine r_iload_n hG (hl0 := rfl) (hd := d_Ward_ofStreet_1) (K := ?_)
    refine cVx hG w_Ward_103 d_Ward_ofStreet_2 (ct_streetAt hn hn6 hk) (by decide) (by decide) rc_0 rfl rfl ⟨(Nat.le_of_ble_eq_true rfl), (Nat.le_of_ble_eq_true rfl)⟩ ⟨(Nat.le_of_ble_eq_true rfl), (Nat.le_of_ble_eq_true rfl)⟩ (Nat.le_of_ble_eq_true rfl) ?_
    refine r_astore_n hG (hd := d_Ward_ofStreet_5) (K := ?_)
    refine r_iload_n hG (hl0 := rfl) (hd := d_Ward_ofStreet_6) (K := ?_)
    refine r_iconst hG (hd := d_Ward_ofStreet_7) (K := ?_)
    refine r_bipush hG (hd := d_Ward_ofStreet_8) (K := ?_)
    refine cSv hG w_Ward_82 d_Ward_ofStreet_10 (ct_ckV (by omega) (by omega)) rfl rfl ⟨(Nat.le_of_ble_eq_true rfl), (Nat.le_of_ble_eq_true rfl)⟩ ⟨(Nat.le_of_ble_eq_true rfl), (Nat.le_of_ble_eq_true rfl)⟩ (Nat.le_of_ble_eq_true rfl) ?_
    refine r_iload_n hG (hl0 := rfl) (hd := d_Ward_ofStreet_13) (K := ?_)
    refine r_tsIn hG (tgt := 98) (off := 84) (hd := d_Ward_ofStreet_14) (h := by decide +kernel) (K := ?_)
    refine r_aload_n hG (hl0 := rfl) (hd := d_Ward_ofStreet_98) (K := ?_)
    refine g_Ward_111 hG (hi := by omega) (hd := d_Ward_ofStreet_99) (K := ?_)
    refine r_iconst hG (hd := d_Ward_ofStreet_102) (K := ?_)
    first | refine a_16 hG (j := 1) (hd := d_Ward_ofStreet_103) (hz := rfl) (hj := by omega) (hi := by omega) (K := ?_) | refine a_17 hG (j := 1) (hd := d_Ward_ofStreet_103) (hz := rfl) (hj := by omega) (hi := by omega) (K := ?_) | refine a_18 hG (j := 1) (hd := d_Ward_ofStreet_103) (hz := rfl) (hj := by omega) (hi := by omega) (K := ?_) | refine a_19 hG (j := 1) (hd := d_Ward_ofStreet_103) (hz := rfl) (hj := by omega) (hi := by omega) (K := ?_) | refine a_4 hG (j := 1) (hd := d_Ward_ofStreet_103) (hz := rfl) (hj := by omega) (hi := by omega) (K := ?_) | refine a_5 hG (j := 1) (hd := d_Ward_ofStreet_103) (hz := rfl) (hj := by omega) (hi := by omega) (K := ?_) | refine a_21 hG (j := 1) (hd := d_Ward_ofStreet_103) (hz := rfl) (hj := by omega) (hi := by omega) (K := ?_) | refine a_23 hG (j := 1) (hd := d_Ward_ofStreet_103) (hz := rfl) (hj := by omega) (hi := by omega) (K := ?_) | refine a_24 hG (j := 1) (hd := d_Ward_ofStreet_103) (hz := rfl) (hj := by omega) (hi := by omega) (K := ?_)
    refine r_iret hG d_Ward_ofStreet_104 ⟨(Nat.le_of_ble_eq_true rfl), (Nat.le_of_ble_eq_true rfl)⟩ ?_
    exact ⟨rfl, rfl⟩
  | 5, _ =>
    refine CT.of (by first | exact plainFor_of_name (by rfl) | decide +kernel) (Nat.le_of_ble_eq_true rfl) ?_
    intro G hG
    show G (0, 0) 0 [(0, rf Γ 0 0), (1, nt k), (2, nt ((5 : Nat) : Int))] [] _
    refine r_aload_n hG (hl0 := rfl) (hd := d_Ward_ofStreet_0) (K := ?_)
    refine r_iload_n hG (hl0 := rfl) (hd := d_Ward_ofStreet_1) (K := ?_)
    refine cVx hG w_Ward_103 d_Ward_ofStreet_2 (ct_streetAt hn hn6 hk) (by decide) (by decide) rc_0 rfl rfl ⟨(Nat.le_of_ble_eq_true rfl), (Nat.le_of_ble_eq_true rfl)⟩ ⟨(Nat.le_of_ble_eq_true rfl), (Nat.le_of_ble_eq_true rfl)⟩ (Nat.le_of_ble_eq_true rfl) ?_
    refine r_astore_n hG (hd := d_Ward_ofStreet_5) (K := ?_)
    refine r_iload_n hG (hl0 := rfl) (hd := d_Ward_ofStreet_6) (K := ?_)
    refine r_iconst hG (hd := d_Ward_ofStreet_7) (K := ?_)
    refine r_bipush hG (hd := d_Ward_ofStreet_8) (K := ?_)
    refine cSv hG w_Ward_82 d_Ward_ofStreet_10 (ct_ckV (by omega) (by omega)) rfl rfl ⟨(Nat.le_of_ble_eq_true rfl), (Nat.le_of_ble_eq_true rfl)⟩ ⟨(Nat.le_of_ble_eq_true rfl), (Nat.le_of_ble_eq_true rfl)⟩ (Nat.le_of_ble_eq_true rfl) ?_
    refine r_iload_n hG (hl0 := rfl) (hd := d_Ward_ofStreet_13) (K := ?_)
    refine r_tsIn hG (tgt := 105) (off := 91) (hd := d_Ward_ofStreet_14) (h := by decide +kernel) (K := ?_)
    refine r_aload_n hG (hl0 := rfl) (hd := d_Ward_ofStreet_105) (K := ?_)
    refine g_Ward_111 hG (hi := by omega) (hd := d_Ward_ofStreet_106) (K := ?_)
    refine r_iconst hG (hd := d_Ward_ofStreet_109) (K := ?_)
    first | refine a_16 hG (j := 2) (hd := d_Ward_ofStreet_110) (hz := rfl) (hj := by omega) (hi := by omega) (K := ?_) | refine a_17 hG (j := 2) (hd := d_Ward_ofStreet_110) (hz := rfl) (hj := by omega) (hi := by omega) (K := ?_) | refine a_18 hG (j := 2) (hd := d_Ward_ofStreet_110) (hz := rfl) (hj := by omega) (hi := by omega) (K := ?_) | refine a_19 hG (j := 2) (hd := d_Ward_ofStreet_110) (hz := rfl) (hj := by omega) (hi := by omega) (K := ?_) | refine a_4 hG (j := 2) (hd := d_Ward_ofStreet_110) (hz := rfl) (hj := by omega) (hi := by omega) (K := ?_) | refine a_5 hG (j := 2) (hd := d_Ward_ofStreet_110) (hz := rfl) (hj := by omega) (hi := by omega) (K := ?_) | refine a_21 hG (j := 2) (hd := d_Ward_ofStreet_110) (hz := rfl) (hj := by omega) (hi := by omega) (K := ?_) | refine a_23 hG (j := 2) (hd := d_Ward_ofStreet_110) (hz := rfl) (hj := by omega) (hi := by omega) (K := ?_) | refine a_24 hG (j := 2) (hd := d_Ward_ofStreet_110) (hz := rfl) (hj := by omega) (hi := by omega) (K := ?_)
    refine r_iret hG d_Ward_ofStreet_111 ⟨(Nat.le_of_ble_eq_true rfl), (Nat.le_of_ble_eq_true rfl)⟩ ?_
    exact ⟨rfl, rfl⟩
  | 6, _ =>
    refine CT.of (by first | exact plainFor_of_name (by rfl) | decide +kernel) (Nat.le_of_ble_eq_true rfl) ?_
    intro G hG
    show G (0, 0) 0 [(0, rf Γ 0 0), (1, nt k), (2, nt ((6 : Nat) : Int))] [] _
    refine r_aload_n hG (hl0 := rfl) (hd := d_Ward_ofStreet_0) (K := ?_)
    refine r_iload_n hG (hl0 := rfl) (hd := d_Ward_ofStreet_1) (K := ?_)
    refine cVx hG w_Ward_103 d_Ward_ofStreet_2 (ct_streetAt hn hn6 hk) (by decide) (by decide) rc_0 rfl rfl ⟨(Nat.le_of_ble_eq_true rfl), (Nat.le_of_ble_eq_true rfl)⟩ ⟨(Nat.le_of_ble_eq_true rfl), (Nat.le_of_ble_eq_true rfl)⟩ (Nat.le_of_ble_eq_true rfl) ?_
    refine r_astore_n hG (hd := d_Ward_ofStreet_5) (K := ?_)
    refine r_iload_n hG (hl0 := rfl) (hd := d_Ward_ofStreet_6) (K := ?_)
    refine r_iconst hG (hd := d_Ward_ofStreet_7) (K := ?_)
    refine r_bipush hG (hd := d_Ward_ofStreet_8) (K := ?_)
    refine cSv hG w_Ward_82 d_Ward_ofStreet_10 (ct_ckV (by omega) (by omega)) rfl rfl ⟨(Nat.le_of_ble_eq_true rfl), (Nat.le_of_ble_eq_true rfl)⟩ ⟨(Nat.le_of_ble_eq_true rfl), (Nat.le_of_ble_eq_true rfl)⟩ (Nat.le_of_ble_eq_true rfl) ?_
    refine r_iload_n hG (hl0 := rfl) (hd := d_Ward_ofStreet_13) (K := ?_)
    refine r_tsIn hG (tgt := 112) (off := 98) (hd := d_Ward_ofStreet_14) (h := by decide +kernel) (K := ?_)
    refine r_aload_n hG (hl0 := rfl) (hd := d_Ward_ofStreet_112) (K := ?_)
    refine g_Ward_208 hG (hi := by omega) (hd := d_Ward_ofStreet_113) (K := ?_)
    refine r_iconst hG (hd := d_Ward_ofStreet_116) (K := ?_)
    first | refine a_16 hG (j := 0) (hd := d_Ward_ofStreet_117) (hz := rfl) (hj := by omega) (hi := by omega) (K := ?_) | refine a_17 hG (j := 0) (hd := d_Ward_ofStreet_117) (hz := rfl) (hj := by omega) (hi := by omega) (K := ?_) | refine a_18 hG (j := 0) (hd := d_Ward_ofStreet_117) (hz := rfl) (hj := by omega) (hi := by omega) (K := ?_) | refine a_19 hG (j := 0) (hd := d_Ward_ofStreet_117) (hz := rfl) (hj := by omega) (hi := by omega) (K := ?_) | refine a_4 hG (j := 0) (hd := d_Ward_ofStreet_117) (hz := rfl) (hj := by omega) (hi := by omega) (K := ?_) | refine a_5 hG (j := 0) (hd := d_Ward_ofStreet_117) (hz := rfl) (hj := by omega) (hi := by omega) (K := ?_) | refine a_21 hG (j := 0) (hd := d_Ward_ofStreet_117) (hz := rfl) (hj := by omega) (hi := by omega) (K := ?_) | refine a_23 hG (j := 0) (hd := d_Ward_ofStreet_117) (hz := rfl) (hj := by omega) (hi := by omega) (K := ?_) | refine a_24 hG (j := 0) (hd := d_Ward_ofStreet_117) (hz := rfl) (hj := by omega) (hi := by omega) (K := ?_)
    refine r_iret hG d_Ward_ofStreet_118 ⟨(Nat.le_of_ble_eq_true rfl), (Nat.le_of_ble_eq_true rfl)⟩ ?_
    exact ⟨rfl, rfl⟩
  | 7, _ =>
    refine CT.of (by first | exact plainFor_of_name (by rfl) | decide +kernel) (Nat.le_of_ble_eq_true rfl) ?_
    intro G hG
    show G (0, 0) 0 [(0, rf Γ 0 0), (1, nt k), (2, nt ((7 : Nat) : Int))] [] _
    refine r_aload_n hG (hl0 := rfl) (hd := d_Ward_ofStreet_0) (K := ?_)
    refine r_iload_n hG (hl0 := rfl) (hd := d_Ward_ofStreet_1) (K := ?_)
    refine cVx hG w_Ward_103 d_Ward_ofStreet_2 (ct_streetAt hn hn6 hk) (by decide) (by decide) rc_0 rfl rfl ⟨(Nat.le_of_ble_eq_true rfl), (Nat.le_of_ble_eq_true rfl)⟩ ⟨(Nat.le_of_ble_eq_true rfl), (Nat.le_of_ble_eq_true rfl)⟩ (Nat.le_of_ble_eq_true rfl) ?_
    refine r_astore_n hG (hd := d_Ward_ofStreet_5) (K := ?_)
    refine r_iload_n hG (hl0 := rfl) (hd := d_Ward_ofStreet_6) (K := ?_)
    refine r_iconst hG (hd := d_Ward_ofStreet_7) (K := ?_)
    refine r_bipush hG (hd := d_Ward_ofStreet_8) (K := ?_)
    refine cSv hG w_Ward_82 d_Ward_ofStreet_10 (ct_ckV (by omega) (by omega)) rfl rfl ⟨(Nat.le_of_ble_eq_true rfl), (Nat.le_of_ble_eq_true rfl)⟩ ⟨(Nat.le_of_ble_eq_true rfl), (Nat.le_of_ble_eq_true rfl)⟩ (Nat.le_of_ble_eq_true rfl) ?_
    refine r_iload_n hG (hl0 := rfl) (hd := d_Ward_ofStreet_13) (K := ?_)
    refine r_tsIn hG (tgt := 119) (off := 105) (hd := d_Ward_ofStreet_14) (h := by decide +kernel) (K := ?_)
    refine r_aload_n hG (hl0 := rfl) (hd := d_Ward_ofStreet_119) (K := ?_)
    refine g_Ward_208 hG (hi := by omega) (hd := d_Ward_ofStreet_120) (K := ?_)
    refine r_iconst hG (hd := d_Ward_ofStreet_123) (K := ?_)
    first | refine a_16 hG (j := 1) (hd := d_Ward_ofStreet_124) (hz := rfl) (hj := by omega) (hi := by omega) (K := ?_) | refine a_17 hG (j := 1) (hd := d_Ward_ofStreet_124) (hz := rfl) (hj := by omega) (hi := by omega) (K := ?_) | refine a_18 hG (j := 1) (hd := d_Ward_ofStreet_124) (hz := rfl) (hj := by omega) (hi := by omega) (K := ?_) | refine a_19 hG (j := 1) (hd := d_Ward_ofStreet_124) (hz := rfl) (hj := by omega) (hi := by omega) (K := ?_) | refine a_4 hG (j := 1) (hd := d_Ward_ofStreet_124) (hz := rfl) (hj := by omega) (hi := by omega) (K := ?_) | refine a_5 hG (j := 1) (hd := d_Ward_ofStreet_124) (hz := rfl) (hj := by omega) (hi := by omega) (K := ?_) | refine a_21 hG (j := 1) (hd := d_Ward_ofStreet_124) (hz := rfl) (hj := by omega) (hi := by omega) (K := ?_) | refine a_23 hG (j := 1) (hd := d_Ward_ofStreet_124) (hz := rfl) (hj := by omega) (hi := by omega) (K := ?_) | refine a_24 hG (j := 1) (hd := d_Ward_ofStreet_124) (hz := rfl) (hj := by omega) (hi := by omega) (K := ?_)
    refine r_iret hG d_Ward_ofStreet_125 ⟨(Nat.le_of_ble_eq_true rfl), (Nat.le_of_ble_eq_true rfl)⟩ ?_
    exact ⟨rfl, rfl⟩
  | 8, _ =>
    refine CT.of (by first | exact plainFor_of_name (by rfl) | decide +kernel) (Nat.le_of_ble_eq_true rfl) ?_
    intro G hG
    show G (0, 0) 0 [(0, rf Γ 0 0), (1, nt k), (2, nt ((8 : Nat) : Int))] [] _
    refine r_aload_n hG (hl0 := rfl) (hd := d_Ward_ofStreet_0) (K := ?_)
    refine r_iload_n hG (hl0 := rfl) (hd := d_Ward_ofStreet_1) (K := ?_)
    refine cVx hG w_Ward_103 d_Ward_ofStreet_2 (ct_streetAt hn hn6 hk) (by decide) (by decide) rc_0 rfl rfl ⟨(Nat.le_of_ble_eq_true rfl), (Nat.le_of_ble_eq_true rfl)⟩ ⟨(Nat.le_of_ble_eq_true rfl), (Nat.le_of_ble_eq_true rfl)⟩ (Nat.le_of_ble_eq_true rfl) ?_
    refine r_astore_n hG (hd := d_Ward_ofStreet_5) (K := ?_)
    refine r_iload_n hG (hl0 := rfl) (hd := d_Ward_ofStreet_6) (K := ?_)
    refine r_iconst hG (hd := d_Ward_ofStreet_7) (K := ?_)
    refine r_bipush hG (hd := d_Ward_ofStreet_8) (K := ?_)
    refine cSv hG w_Ward_82 d_Ward_ofStreet_10 (ct_ckV (by omega) (by omega)) rfl rfl ⟨(Nat.le_of_ble_eq_true rfl), (Nat.le_of_ble_eq_true rfl)⟩ ⟨(Nat.le_of_ble_eq_true rfl), (Nat.le_of_ble_eq_true rfl)⟩ (Nat.le_of_ble_eq_true rfl) ?_
    refine r_iload_n hG (hl0 := rfl) (hd := d_Ward_ofStreet_13) (K := ?_)
    refine r_tsIn hG (tgt := 126) (off := 112) (hd := d_Ward_ofStreet_14) (h := by decide +kernel) (K := ?_)
    refine r_aload_n hG (hl0 := rfl) (hd := d_Ward_ofStreet_126) (K := ?_)
    refine g_Ward_208 hG (hi := by omega) (hd := d_Ward_ofStreet_127) (K := ?_)
    refine r_iconst hG (hd := d_Ward_ofStreet_130) (K := ?_)
    first | refine a_16 hG (j := 2) (hd := d_Ward_ofStreet_131) (hz := rfl) (hj := by omega) (hi := by omega) (K := ?_) | refine a_17 hG (j := 2) (hd := d_Ward_ofStreet_131) (hz := rfl) (hj := by omega) (hi := by omega) (K := ?_) | refine a_18 hG (j := 2) (hd := d_Ward_ofStreet_131) (hz := rfl) (hj := by omega) (hi := by omega) (K := ?_) | refine a_19 hG (j := 2) (hd := d_Ward_ofStreet_131) (hz := rfl) (hj := by omega) (hi := by omega) (K := ?_) | refine a_4 hG (j := 2) (hd := d_Ward_ofStreet_131) (hz := rfl) (hj := by omega) (hi := by omega) (K := ?_) | refine a_5 hG (j := 2) (hd := d_Ward_ofStreet_131) (hz := rfl) (hj := by omega) (hi := by omega) (K := ?_) | refine a_21 hG (j := 2) (hd := d_Ward_ofStreet_131) (hz := rfl) (hj := by omega) (hi := by omega) (K := ?_) | refine a_23 hG (j := 2) (hd := d_Ward_ofStreet_131) (hz := rfl) (hj := by omega) (hi := by omega) (K := ?_) | refine a_24 hG (j := 2) (hd := d_Ward_ofStreet_131) (hz := rfl) (hj := by omega) (hi := by omega) (K := ?_)
    refine r_iret hG d_Ward_ofStreet_132 ⟨(Nat.le_of_ble_eq_true rfl), (Nat.le_of_ble_eq_true rfl)⟩ ?_
    exact ⟨rfl, rfl⟩
  | 9, _ =>
    refine CT.of (by first | exact plainFor_of_name (by rfl) | decide +kernel) (Nat.le_of_ble_eq_true rfl) ?_
    intro G hG
    show G (0, 0) 0 [(0, rf Γ 0 0), (1, nt k), (2, nt ((9 : Nat) : Int))] [] _
    refine r_aload_n hG (hl0 := rfl) (hd := d_Ward_ofStreet_0) (K := ?_)
    refine r_iload_n hG (hl0 := rfl) (hd := d_Ward_ofStreet_1) (K := ?_)
    refine cVx hG w_Ward_103 d_Ward_ofStreet_2 (ct_streetAt hn hn6 hk) (by decide) (by decide) rc_0 rfl rfl ⟨(Nat.le_of_ble_eq_true rfl), (Nat.le_of_ble_eq_true rfl)⟩ ⟨(Nat.le_of_ble_eq_true rfl), (Nat.le_of_ble_eq_true rfl)⟩ (Nat.le_of_ble_eq_true rfl) ?_
    refine r_astore_n hG (hd := d_Ward_ofStreet_5) (K := ?_)
    refine r_iload_n hG (hl0 := rfl) (hd := d_Ward_ofStreet_6) (K := ?_)
    refine r_iconst hG (hd := d_Ward_ofStreet_7) (K := ?_)
    refine r_bipush hG (hd := d_Ward_ofStreet_8) (K := ?_)
    refine cSv hG w_Ward_82 d_Ward_ofStreet_10 (ct_ckV (by omega) (by omega)) rfl rfl ⟨(Nat.le_of_ble_eq_true rfl), (Nat.le_of_ble_eq_true rfl)⟩ ⟨(Nat.le_of_ble_eq_true rfl), (Nat.le_of_ble_eq_true rfl)⟩ (Nat.le_of_ble_eq_true rfl) ?_
    refine r_iload_n hG (hl0 := rfl) (hd := d_Ward_ofStreet_13) (K := ?_)
    refine r_tsIn hG (tgt := 133) (off := 119) (hd := d_Ward_ofStreet_14) (h := by decide +kernel) (K := ?_)
    refine r_aload_n hG (hl0 := rfl) (hd := d_Ward_ofStreet_133) (K := ?_)
    refine g_Ward_211 hG (hi := by omega) (hd := d_Ward_ofStreet_134) (K := ?_)
    refine r_iconst hG (hd := d_Ward_ofStreet_137) (K := ?_)
    first | refine a_16 hG (j := 1) (hd := d_Ward_ofStreet_138) (hz := rfl) (hj := by omega) (hi := by omega) (K := ?_) | refine a_17 hG (j := 1) (hd := d_Ward_ofStreet_138) (hz := rfl) (hj := by omega) (hi := by omega) (K := ?_) | refine a_18 hG (j := 1) (hd := d_Ward_ofStreet_138) (hz := rfl) (hj := by omega) (hi := by omega) (K := ?_) | refine a_19 hG (j := 1) (hd := d_Ward_ofStreet_138) (hz := rfl) (hj := by omega) (hi := by omega) (K := ?_) | refine a_4 hG (j := 1) (hd := d_Ward_ofStreet_138) (hz := rfl) (hj := by omega) (hi := by omega) (K := ?_) | refine a_5 hG (j := 1) (hd := d_Ward_ofStreet_138) (hz := rfl) (hj := by omega) (hi := by omega) (K := ?_) | refine a_21 hG (j := 1) (hd := d_Ward_ofStreet_138) (hz := rfl) (hj := by omega) (hi := by omega) (K := ?_) | refine a_23 hG (j := 1) (hd := d_Ward_ofStreet_138) (hz := rfl) (hj := by omega) (hi := by omega) (K := ?_) | refine a_24 hG (j := 1) (hd := d_Ward_ofStreet_138) (hz := rfl) (hj := by omega) (hi := by omega) (K := ?_)
    refine r_iret hG d_Ward_ofStreet_139 ⟨(Nat.le_of_ble_eq_true rfl), (Nat.le_of_ble_eq_true rfl)⟩ ?_
    exact ⟨rfl, rfl⟩
  | 10, _ =>
    refine CT.of (by first | exact plainFor_of_name (by rfl) | decide +kernel) (Nat.le_of_ble_eq_true rfl) ?_
    intro G hG
    show G (0, 0) 0 [(0, rf Γ 0 0), (1, nt k), (2, nt ((10 : Nat) : Int))] [] _
    refine r_aload_n hG (hl0 := rfl) (hd := d_Ward_ofStreet_0) (K := ?_)
    refine r_iload_n hG (hl0 := rfl) (hd := d_Ward_ofStreet_1) (K := ?_)
    refine cVx hG w_Ward_103 d_Ward_ofStreet_2 (ct_streetAt hn hn6 hk) (by decide) (by decide) rc_0 rfl rfl ⟨(Nat.le_of_ble_eq_true rfl), (Nat.le_of_ble_eq_true rfl)⟩ ⟨(Nat.le_of_ble_eq_true rfl), (Nat.le_of_ble_eq_true rfl)⟩ (Nat.le_of_ble_eq_true rfl) ?_
    refine r_astore_n hG (hd := d_Ward_ofStreet_5) (K := ?_)
    refine r_iload_n hG (hl0 := rfl) (hd := d_Ward_ofStreet_6) (K := ?_)
    refine r_iconst hG (hd := d_Ward_ofStreet_7) (K := ?_)
    refine r_bipush hG (hd := d_Ward_ofStreet_8) (K := ?_)
    refine cSv hG w_Ward_82 d_Ward_ofStreet_10 (ct_ckV (by omega) (by omega)) rfl rfl ⟨(Nat.le_of_ble_eq_true rfl), (Nat.le_of_ble_eq_true rfl)⟩ ⟨(Nat.le_of_ble_eq_true rfl), (Nat.le_of_ble_eq_true rfl)⟩ (Nat.le_of_ble_eq_true rfl) ?_
    refine r_iload_n hG (hl0 := rfl) (hd := d_Ward_ofStreet_13) (K := ?_)
    refine r_tsIn hG (tgt := 140) (off := 126) (hd := d_Ward_ofStreet_14) (h := by decide +kernel) (K := ?_)
    refine r_aload_n hG (hl0 := rfl) (hd := d_Ward_ofStreet_140) (K := ?_)
    refine g_Ward_211 hG (hi := by omega) (hd := d_Ward_ofStreet_141) (K := ?_)
    refine r_iconst hG (hd := d_Ward_ofStreet_144) (K := ?_)
    first | refine a_16 hG (j := 2) (hd := d_Ward_ofStreet_145) (hz := rfl) (hj := by omega) (hi := by omega) (K := ?_) | refine a_17 hG (j := 2) (hd := d_Ward_ofStreet_145) (hz := rfl) (hj := by omega) (hi := by omega) (K := ?_) | refine a_18 hG (j := 2) (hd := d_Ward_ofStreet_145) (hz := rfl) (hj := by omega) (hi := by omega) (K := ?_) | refine a_19 hG (j := 2) (hd := d_Ward_ofStreet_145) (hz := rfl) (hj := by omega) (hi := by omega) (K := ?_) | refine a_4 hG (j := 2) (hd := d_Ward_ofStreet_145) (hz := rfl) (hj := by omega) (hi := by omega) (K := ?_) | refine a_5 hG (j := 2) (hd := d_Ward_ofStreet_145) (hz := rfl) (hj := by omega) (hi := by omega) (K := ?_) | refine a_21 hG (j := 2) (hd := d_Ward_ofStreet_145) (hz := rfl) (hj := by omega) (hi := by omega) (K := ?_) | refine a_23 hG (j := 2) (hd := d_Ward_ofStreet_145) (hz := rfl) (hj := by omega) (hi := by omega) (K := ?_) | refine a_24 hG (j := 2) (hd := d_Ward_ofStreet_145) (hz := rfl) (hj := by omega) (hi := by omega) (K := ?_)
    refine r_iret hG d_Ward_ofStreet_146 ⟨(Nat.le_of_ble_eq_true rfl), (Nat.le_of_ble_eq_true rfl)⟩ ?_
    exact ⟨rfl, rfl⟩
  | 11, _ =>
    refine CT.of (by first | exact plainFor_of_name (by rfl) | decide +kernel) (Nat.le_of_ble_eq_true rfl) ?_
    intro G hG
    show G (0, 0) 0 [(0, rf Γ 0 0), (1, nt k), (2, nt ((11 : Nat) : Int))] [] _
    refine r_aload_n hG (hl0 := rfl) (hd := d_Ward_ofStreet_0) (K := ?_)
    refine r_iload_n hG (hl0 := rfl) (hd := d_Ward_ofStreet_1) (K := ?_)
    refine cVx hG w_Ward_103 d_Ward_ofStreet_2 (ct_streetAt hn hn6 hk) (by decide) (by decide) rc_0 rfl rfl ⟨(Nat.le_of_ble_eq_true rfl), (Nat.le_of_ble_eq_true rfl)⟩ ⟨(Nat.le_of_ble_eq_true rfl), (Nat.le_of_ble_eq_true rfl)⟩ (Nat.le_of_ble_eq_true rfl) ?_
    refine r_astore_n hG (hd := d_Ward_ofStreet_5) (K := ?_)
    refine r_iload_n hG (hl0 := rfl) (hd := d_Ward_ofStreet_6) (K := ?_)
    refine r_iconst hG (hd := d_Ward_ofStreet_7) (K := ?_)
    refine r_bipush hG (hd := d_Ward_ofStreet_8) (K := ?_)
    refine cSv hG w_Ward_82 d_Ward_ofStreet_10 (ct_ckV (by omega) (by omega)) rfl rfl ⟨(Nat.le_of_ble_eq_true rfl), (Nat.le_of_ble_eq_true rfl)⟩ ⟨(Nat.le_of_ble_eq_true rfl), (Nat.le_of_ble_eq_true rfl)⟩ (Nat.le_of_ble_eq_true rfl) ?_
    refine r_iload_n hG (hl0 := rfl) (hd := d_Ward_ofStreet_13) (K := ?_)
    refine r_tsIn hG (tgt := 147) (off := 133) (hd := d_Ward_ofStreet_14) (h := by decide +kernel) (K := ?_)
    refine r_aload_n hG (hl0 := rfl) (hd := d_Ward_ofStreet_147) (K := ?_)
    refine cVx hG w_Ward_213 d_Ward_ofStreet_148 (ct_owes (by omega)) (by decide) (by show _ < 12; omega) rc_15 rfl rfl ⟨(Nat.le_of_ble_eq_true rfl), (Nat.le_of_ble_eq_true rfl)⟩ ⟨(Nat.le_of_ble_eq_true rfl), (Nat.le_of_ble_eq_true rfl)⟩ (Nat.le_of_ble_eq_true rfl) ?_
    refine r_iret hG d_Ward_ofStreet_151 ⟨(Nat.le_of_ble_eq_true rfl), (Nat.le_of_ble_eq_true rfl)⟩ ?_
    exact ⟨rfl, rfl⟩
  | 12, _ =>
    refine CT.of (by first | exact plainFor_of_name (by rfl) | decide +kernel) (Nat.le_of_ble_eq_true rfl) ?_
    intro G hG
    show G (0, 0) 0 [(0, rf Γ 0 0), (1, nt k), (2, nt ((12 : Nat) : Int))] [] _
    refine r_aload_n hG (hl0 := rfl) (hd := d_Ward_ofStreet_0) (K := ?_)
    refine r_iload_n hG (hl0 := rfl) (hd := d_Ward_ofStreet_1) (K := ?_)
    refine cVx hG w_Ward_103 d_Ward_ofStreet_2 (ct_streetAt hn hn6 hk) (by decide) (by decide) rc_0 rfl rfl ⟨(Nat.le_of_ble_eq_true rfl), (Nat.le_of_ble_eq_true rfl)⟩ ⟨(Nat.le_of_ble_eq_true rfl), (Nat.le_of_ble_eq_true rfl)⟩ (Nat.le_of_ble_eq_true rfl) ?_
    refine r_astore_n hG (hd := d_Ward_ofStreet_5) (K := ?_)
    refine r_iload_n hG (hl0 := rfl) (hd := d_Ward_ofStreet_6) (K := ?_)
    refine r_iconst hG (hd := d_Ward_ofStreet_7) (K := ?_)
    refine r_bipush hG (hd := d_Ward_ofStreet_8) (K := ?_)
    refine cSv hG w_Ward_82 d_Ward_ofStreet_10 (ct_ckV (by omega) (by omega)) rfl rfl ⟨(Nat.le_of_ble_eq_true rfl), (Nat.le_of_ble_eq_true rfl)⟩ ⟨(Nat.le_of_ble_eq_true rfl), (Nat.le_of_ble_eq_true rfl)⟩ (Nat.le_of_ble_eq_true rfl) ?_
    refine r_iload_n hG (hl0 := rfl) (hd := d_Ward_ofStreet_13) (K := ?_)
    refine r_tsOut hG (tgt := 152) (hd := d_Ward_ofStreet_14) (h := by decide +kernel) (K := ?_)
    refine r_aload_n hG (hl0 := rfl) (hd := d_Ward_ofStreet_152) (K := ?_)
    refine g_Ward_216 hG (hi := by omega) (hd := d_Ward_ofStreet_153) (K := ?_)
    refine r_iret hG d_Ward_ofStreet_156 ⟨(Nat.le_of_ble_eq_true rfl), (Nat.le_of_ble_eq_true rfl)⟩ ?_
    exact ⟨rfl, rfl⟩
  | w + 13, h => exact absurd h (by omega)
def loF (S : St) (i w : Nat) : Int := match w with
  | 0 => S 20 i 0
  | 1 => S 25 i 0
  | 2 => S 25 i 1
  | 3 => S 21 i 0
  | 4 => S 22 i 0
  | 5 => S 23 i 0
  | _ => S 24 i 0
theorem ct_ofLorry {Γ : Gm} {S : St} {n k w : Nat} (hn : S 1 0 0 = (n : Int)) (hn3 : n ≤ 3) (hk : k < n) (hw : w < 7) : CT Γ y_Ward_ofLorry b_Ward_ofLorry 4 ((some FieldType.int)) (rmx 3 0 0) [rf Γ 0 0, nt k, nt w] S (dX (some (nt (loF S k w))) S) := by
  match w, hw with
  | 0, _ =>
    refine CT.of (by first | exact plainFor_of_name (by rfl) | decide +kernel) (Nat.le_of_ble_eq_true rfl) ?_
    intro G hG
    show G (0, 0) 0 [(0, rf Γ 0 0), (1, nt k), (2, nt ((0 : Nat) : Int))] [] _
    refine r_aload_n hG (hl0 := rfl) (hd := d_Ward_ofLorry_0) (K := ?_)
    refine r_iload_n hG (hl0 := rfl) (hd := d_Ward_ofLorry_1) (K := ?_)
    refine cVx hG w_Ward_126 d_Ward_ofLorry_2 (ct_lorryAt hn hn3 hk) (by decide) (by decide) rc_0 rfl rfl ⟨(Nat.le_of_ble_eq_true rfl), (Nat.le_of_ble_eq_true rfl)⟩ ⟨(Nat.le_of_ble_eq_true rfl), (Nat.le_of_ble_eq_true rfl)⟩ (Nat.le_of_ble_eq_true rfl) ?_
    refine r_astore_n hG (hd := d_Ward_ofLorry_5) (K := ?_)
    refine r_iload_n hG (hl0 := rfl) (hd := d_Ward_ofLorry_6) (K := ?_)
    refine r_iconst hG (hd := d_Ward_ofLorry_7) (K := ?_)
    refine r_bipush hG (hd := d_Ward_ofLorry_8) (K := ?_)
    refine cSv hG w_Ward_82 d_Ward_ofLorry_10 (ct_ckV (by omega) (by omega)) rfl rfl ⟨(Nat.le_of_ble_eq_true rfl), (Nat.le_of_ble_eq_true rfl)⟩ ⟨(Nat.le_of_ble_eq_true rfl), (Nat.le_of_ble_eq_true rfl)⟩ (Nat.le_of_ble_eq_true rfl) ?_
    refine r_iload_n hG (hl0 := rfl) (hd := d_Ward_ofLorry_13) (K := ?_)
    refine r_tsIn hG (tgt := 52) (off := 38) (hd := d_Ward_ofLorry_14) (h := by decide +kernel) (K := ?_)
    refine r_aload_n hG (hl0 := rfl) (hd := d_Ward_ofLorry_52) (K := ?_)
    refine g_Ward_120 hG (hi := by omega) (hd := d_Ward_ofLorry_53) (K := ?_)
    refine r_iret hG d_Ward_ofLorry_56 ⟨(Nat.le_of_ble_eq_true rfl), (Nat.le_of_ble_eq_true rfl)⟩ ?_
    exact ⟨rfl, rfl⟩
  | 1, _ =>
    refine CT.of (by first | exact plainFor_of_name (by rfl) | decide +kernel) (Nat.le_of_ble_eq_true rfl) ?_
    intro G hG
    show G (0, 0) 0 [(0, rf Γ 0 0), (1, nt k), (2, nt ((1 : Nat) : Int))] [] _
    refine r_aload_n hG (hl0 := rfl) (hd := d_Ward_ofLorry_0) (K := ?_)
    refine r_iload_n hG (hl0 := rfl) (hd := d_Ward_ofLorry_1) (K := ?_)
    refine cVx hG w_Ward_126 d_Ward_ofLorry_2 (ct_lorryAt hn hn3 hk) (by decide) (by decide) rc_0 rfl rfl ⟨(Nat.le_of_ble_eq_true rfl), (Nat.le_of_ble_eq_true rfl)⟩ ⟨(Nat.le_of_ble_eq_true rfl), (Nat.le_of_ble_eq_true rfl)⟩ (Nat.le_of_ble_eq_true rfl) ?_
    refine r_astore_n hG (hd := d_Ward_ofLorry_5) (K := ?_)
    refine r_iload_n hG (hl0 := rfl) (hd := d_Ward_ofLorry_6) (K := ?_)
    refine r_iconst hG (hd := d_Ward_ofLorry_7) (K := ?_)
    refine r_bipush hG (hd := d_Ward_ofLorry_8) (K := ?_)
    refine cSv hG w_Ward_82 d_Ward_ofLorry_10 (ct_ckV (by omega) (by omega)) rfl rfl ⟨(Nat.le_of_ble_eq_true rfl), (Nat.le_of_ble_eq_true rfl)⟩ ⟨(Nat.le_of_ble_eq_true rfl), (Nat.le_of_ble_eq_true rfl)⟩ (Nat.le_of_ble_eq_true rfl) ?_
    refine r_iload_n hG (hl0 := rfl) (hd := d_Ward_ofLorry_13) (K := ?_)
    refine r_tsIn hG (tgt := 57) (off := 43) (hd := d_Ward_ofLorry_14) (h := by decide +kernel) (K := ?_)
    refine r_aload_n hG (hl0 := rfl) (hd := d_Ward_ofLorry_57) (K := ?_)
    refine g_Ward_123 hG (hi := by omega) (hd := d_Ward_ofLorry_58) (K := ?_)
    refine r_iconst hG (hd := d_Ward_ofLorry_61) (K := ?_)
    first | refine a_16 hG (j := 0) (hd := d_Ward_ofLorry_62) (hz := rfl) (hj := by omega) (hi := by omega) (K := ?_) | refine a_17 hG (j := 0) (hd := d_Ward_ofLorry_62) (hz := rfl) (hj := by omega) (hi := by omega) (K := ?_) | refine a_18 hG (j := 0) (hd := d_Ward_ofLorry_62) (hz := rfl) (hj := by omega) (hi := by omega) (K := ?_) | refine a_19 hG (j := 0) (hd := d_Ward_ofLorry_62) (hz := rfl) (hj := by omega) (hi := by omega) (K := ?_) | refine a_4 hG (j := 0) (hd := d_Ward_ofLorry_62) (hz := rfl) (hj := by omega) (hi := by omega) (K := ?_) | refine a_5 hG (j := 0) (hd := d_Ward_ofLorry_62) (hz := rfl) (hj := by omega) (hi := by omega) (K := ?_) | refine a_21 hG (j := 0) (hd := d_Ward_ofLorry_62) (hz := rfl) (hj := by omega) (hi := by omega) (K := ?_) | refine a_23 hG (j := 0) (hd := d_Ward_ofLorry_62) (hz := rfl) (hj := by omega) (hi := by omega) (K := ?_) | refine a_24 hG (j := 0) (hd := d_Ward_ofLorry_62) (hz := rfl) (hj := by omega) (hi := by omega) (K := ?_)
    refine r_iret hG d_Ward_ofLorry_63 ⟨(Nat.le_of_ble_eq_true rfl), (Nat.le_of_ble_eq_true rfl)⟩ ?_
    exact ⟨rfl, rfl⟩
  | 2, _ =>
    refine CT.of (by first | exact plainFor_of_name (by rfl) | decide +kernel) (Nat.le_of_ble_eq_true rfl) ?_
    intro G hG
    show G (0, 0) 0 [(0, rf Γ 0 0), (1, nt k), (2, nt ((2 : Nat) : Int))] [] _
    refine r_aload_n hG (hl0 := rfl) (hd := d_Ward_ofLorry_0) (K := ?_)
    refine r_iload_n hG (hl0 := rfl) (hd := d_Ward_ofLorry_1) (K := ?_)
    refine cVx hG w_Ward_126 d_Ward_ofLorry_2 (ct_lorryAt hn hn3 hk) (by decide) (by decide) rc_0 rfl rfl ⟨(Nat.le_of_ble_eq_true rfl), (Nat.le_of_ble_eq_true rfl)⟩ ⟨(Nat.le_of_ble_eq_true rfl), (Nat.le_of_ble_eq_true rfl)⟩ (Nat.le_of_ble_eq_true rfl) ?_
    refine r_astore_n hG (hd := d_Ward_ofLorry_5) (K := ?_)
    refine r_iload_n hG (hl0 := rfl) (hd := d_Ward_ofLorry_6) (K := ?_)
    refine r_iconst hG (hd := d_Ward_ofLorry_7) (K := ?_)
    refine r_bipush hG (hd := d_Ward_ofLorry_8) (K := ?_)
    refine cSv hG w_Ward_82 d_Ward_ofLorry_10 (ct_ckV (by omega) (by omega)) rfl rfl ⟨(Nat.le_of_ble_eq_true rfl), (Nat.le_of_ble_eq_true rfl)⟩ ⟨(Nat.le_of_ble_eq_true rfl), (Nat.le_of_ble_eq_true rfl)⟩ (Nat.le_of_ble_eq_true rfl) ?_
    refine r_iload_n hG (hl0 := rfl) (hd := d_Ward_ofLorry_13) (K := ?_)
    refine r_tsIn hG (tgt := 64) (off := 50) (hd := d_Ward_ofLorry_14) (h := by decide +kernel) (K := ?_)
    refine r_aload_n hG (hl0 := rfl) (hd := d_Ward_ofLorry_64) (K := ?_)
    refine g_Ward_123 hG (hi := by omega) (hd := d_Ward_ofLorry_65) (K := ?_)
    refine r_iconst hG (hd := d_Ward_ofLorry_68) (K := ?_)
    first | refine a_16 hG (j := 1) (hd := d_Ward_ofLorry_69) (hz := rfl) (hj := by omega) (hi := by omega) (K := ?_) | refine a_17 hG (j := 1) (hd := d_Ward_ofLorry_69) (hz := rfl) (hj := by omega) (hi := by omega) (K := ?_) | refine a_18 hG (j := 1) (hd := d_Ward_ofLorry_69) (hz := rfl) (hj := by omega) (hi := by omega) (K := ?_) | refine a_19 hG (j := 1) (hd := d_Ward_ofLorry_69) (hz := rfl) (hj := by omega) (hi := by omega) (K := ?_) | refine a_4 hG (j := 1) (hd := d_Ward_ofLorry_69) (hz := rfl) (hj := by omega) (hi := by omega) (K := ?_) | refine a_5 hG (j := 1) (hd := d_Ward_ofLorry_69) (hz := rfl) (hj := by omega) (hi := by omega) (K := ?_) | refine a_21 hG (j := 1) (hd := d_Ward_ofLorry_69) (hz := rfl) (hj := by omega) (hi := by omega) (K := ?_) | refine a_23 hG (j := 1) (hd := d_Ward_ofLorry_69) (hz := rfl) (hj := by omega) (hi := by omega) (K := ?_) | refine a_24 hG (j := 1) (hd := d_Ward_ofLorry_69) (hz := rfl) (hj := by omega) (hi := by omega) (K := ?_)
    refine r_iret hG d_Ward_ofLorry_70 ⟨(Nat.le_of_ble_eq_true rfl), (Nat.le_of_ble_eq_true rfl)⟩ ?_
    exact ⟨rfl, rfl⟩
  | 3, _ =>
    refine CT.of (by first | exact plainFor_of_name (by rfl) | decide +kernel) (Nat.le_of_ble_eq_true rfl) ?_
    intro G hG
    show G (0, 0) 0 [(0, rf Γ 0 0), (1, nt k), (2, nt ((3 : Nat) : Int))] [] _
    refine r_aload_n hG (hl0 := rfl) (hd := d_Ward_ofLorry_0) (K := ?_)
    refine r_iload_n hG (hl0 := rfl) (hd := d_Ward_ofLorry_1) (K := ?_)
    refine cVx hG w_Ward_126 d_Ward_ofLorry_2 (ct_lorryAt hn hn3 hk) (by decide) (by decide) rc_0 rfl rfl ⟨(Nat.le_of_ble_eq_true rfl), (Nat.le_of_ble_eq_true rfl)⟩ ⟨(Nat.le_of_ble_eq_true rfl), (Nat.le_of_ble_eq_true rfl)⟩ (Nat.le_of_ble_eq_true rfl) ?_
    refine r_astore_n hG (hd := d_Ward_ofLorry_5) (K := ?_)
    refine r_iload_n hG (hl0 := rfl) (hd := d_Ward_ofLorry_6) (K := ?_)
    refine r_iconst hG (hd := d_Ward_ofLorry_7) (K := ?_)
    refine r_bipush hG (hd := d_Ward_ofLorry_8) (K := ?_)
    refine cSv hG w_Ward_82 d_Ward_ofLorry_10 (ct_ckV (by omega) (by omega)) rfl rfl ⟨(Nat.le_of_ble_eq_true rfl), (Nat.le_of_ble_eq_true rfl)⟩ ⟨(Nat.le_of_ble_eq_true rfl), (Nat.le_of_ble_eq_true rfl)⟩ (Nat.le_of_ble_eq_true rfl) ?_
    refine r_iload_n hG (hl0 := rfl) (hd := d_Ward_ofLorry_13) (K := ?_)
    refine r_tsIn hG (tgt := 71) (off := 57) (hd := d_Ward_ofLorry_14) (h := by decide +kernel) (K := ?_)
    refine r_aload_n hG (hl0 := rfl) (hd := d_Ward_ofLorry_71) (K := ?_)
    refine g_Ward_219 hG (hi := by omega) (hd := d_Ward_ofLorry_72) (K := ?_)
    refine r_iret hG d_Ward_ofLorry_75 ⟨(Nat.le_of_ble_eq_true rfl), (Nat.le_of_ble_eq_true rfl)⟩ ?_
    exact ⟨rfl, rfl⟩
  | 4, _ =>
    refine CT.of (by first | exact plainFor_of_name (by rfl) | decide +kernel) (Nat.le_of_ble_eq_true rfl) ?_
    intro G hG
    show G (0, 0) 0 [(0, rf Γ 0 0), (1, nt k), (2, nt ((4 : Nat) : Int))] [] _
    refine r_aload_n hG (hl0 := rfl) (hd := d_Ward_ofLorry_0) (K := ?_)
    refine r_iload_n hG (hl0 := rfl) (hd := d_Ward_ofLorry_1) (K := ?_)
    refine cVx hG w_Ward_126 d_Ward_ofLorry_2 (ct_lorryAt hn hn3 hk) (by decide) (by decide) rc_0 rfl rfl ⟨(Nat.le_of_ble_eq_true rfl), (Nat.le_of_ble_eq_true rfl)⟩ ⟨(Nat.le_of_ble_eq_true rfl), (Nat.le_of_ble_eq_true rfl)⟩ (Nat.le_of_ble_eq_true rfl) ?_
    refine r_astore_n hG (hd := d_Ward_ofLorry_5) (K := ?_)
    refine r_iload_n hG (hl0 := rfl) (hd := d_Ward_ofLorry_6) (K := ?_)
    refine r_iconst hG (hd := d_Ward_ofLorry_7) (K := ?_)
    refine r_bipush hG (hd := d_Ward_ofLorry_8) (K := ?_)
    refine cSv hG w_Ward_82 d_Ward_ofLorry_10 (ct_ckV (by omega) (by omega)) rfl rfl ⟨(Nat.le_of_ble_eq_true rfl), (Nat.le_of_ble_eq_true rfl)⟩ ⟨(Nat.le_of_ble_eq_true rfl), (Nat.le_of_ble_eq_true rfl)⟩ (Nat.le_of_ble_eq_true rfl) ?_
    refine r_iload_n hG (hl0 := rfl) (hd := d_Ward_ofLorry_13) (K := ?_)
    refine r_tsIn hG (tgt := 76) (off := 62) (hd := d_Ward_ofLorry_14) (h := by decide +kernel) (K := ?_)
    refine r_aload_n hG (hl0 := rfl) (hd := d_Ward_ofLorry_76) (K := ?_)
    refine g_Ward_222 hG (hi := by omega) (hd := d_Ward_ofLorry_77) (K := ?_)
    refine r_iret hG d_Ward_ofLorry_80 ⟨(Nat.le_of_ble_eq_true rfl), (Nat.le_of_ble_eq_true rfl)⟩ ?_
    exact ⟨rfl, rfl⟩
  | 5, _ =>
    refine CT.of (by first | exact plainFor_of_name (by rfl) | decide +kernel) (Nat.le_of_ble_eq_true rfl) ?_
    intro G hG
    show G (0, 0) 0 [(0, rf Γ 0 0), (1, nt k), (2, nt ((5 : Nat) : Int))] [] _
    refine r_aload_n hG (hl0 := rfl) (hd := d_Ward_ofLorry_0) (K := ?_)
    refine r_iload_n hG (hl0 := rfl) (hd := d_Ward_ofLorry_1) (K := ?_)
    refine cVx hG w_Ward_126 d_Ward_ofLorry_2 (ct_lorryAt hn hn3 hk) (by decide) (by decide) rc_0 rfl rfl ⟨(Nat.le_of_ble_eq_true rfl), (Nat.le_of_ble_eq_true rfl)⟩ ⟨(Nat.le_of_ble_eq_true rfl), (Nat.le_of_ble_eq_true rfl)⟩ (Nat.le_of_ble_eq_true rfl) ?_
    refine r_astore_n hG (hd := d_Ward_ofLorry_5) (K := ?_)
    refine r_iload_n hG (hl0 := rfl) (hd := d_Ward_ofLorry_6) (K := ?_)
    refine r_iconst hG (hd := d_Ward_ofLorry_7) (K := ?_)
    refine r_bipush hG (hd := d_Ward_ofLorry_8) (K := ?_)
    refine cSv hG w_Ward_82 d_Ward_ofLorry_10 (ct_ckV (by omega) (by omega)) rfl rfl ⟨(Nat.le_of_ble_eq_true rfl), (Nat.le_of_ble_eq_true rfl)⟩ ⟨(Nat.le_of_ble_eq_true rfl), (Nat.le_of_ble_eq_true rfl)⟩ (Nat.le_of_ble_eq_true rfl) ?_
    refine r_iload_n hG (hl0 := rfl) (hd := d_Ward_ofLorry_13) (K := ?_)
    refine r_tsIn hG (tgt := 81) (off := 67) (hd := d_Ward_ofLorry_14) (h := by decide +kernel) (K := ?_)
    refine r_aload_n hG (hl0 := rfl) (hd := d_Ward_ofLorry_81) (K := ?_)
    refine g_Ward_225 hG (hi := by omega) (hd := d_Ward_ofLorry_82) (K := ?_)
    refine r_iret hG d_Ward_ofLorry_85 ⟨(Nat.le_of_ble_eq_true rfl), (Nat.le_of_ble_eq_true rfl)⟩ ?_
    exact ⟨rfl, rfl⟩
  | 6, _ =>
    refine CT.of (by first | exact plainFor_of_name (by rfl) | decide +kernel) (Nat.le_of_ble_eq_true rfl) ?_
    intro G hG
    show G (0, 0) 0 [(0, rf Γ 0 0), (1, nt k), (2, nt ((6 : Nat) : Int))] [] _
    refine r_aload_n hG (hl0 := rfl) (hd := d_Ward_ofLorry_0) (K := ?_)
    refine r_iload_n hG (hl0 := rfl) (hd := d_Ward_ofLorry_1) (K := ?_)
    refine cVx hG w_Ward_126 d_Ward_ofLorry_2 (ct_lorryAt hn hn3 hk) (by decide) (by decide) rc_0 rfl rfl ⟨(Nat.le_of_ble_eq_true rfl), (Nat.le_of_ble_eq_true rfl)⟩ ⟨(Nat.le_of_ble_eq_true rfl), (Nat.le_of_ble_eq_true rfl)⟩ (Nat.le_of_ble_eq_true rfl) ?_
    refine r_astore_n hG (hd := d_Ward_ofLorry_5) (K := ?_)
    refine r_iload_n hG (hl0 := rfl) (hd := d_Ward_ofLorry_6) (K := ?_)
    refine r_iconst hG (hd := d_Ward_ofLorry_7) (K := ?_)
    refine r_bipush hG (hd := d_Ward_ofLorry_8) (K := ?_)
    refine cSv hG w_Ward_82 d_Ward_ofLorry_10 (ct_ckV (by omega) (by omega)) rfl rfl ⟨(Nat.le_of_ble_eq_true rfl), (Nat.le_of_ble_eq_true rfl)⟩ ⟨(Nat.le_of_ble_eq_true rfl), (Nat.le_of_ble_eq_true rfl)⟩ (Nat.le_of_ble_eq_true rfl) ?_
    refine r_iload_n hG (hl0 := rfl) (hd := d_Ward_ofLorry_13) (K := ?_)
    refine r_tsOut hG (tgt := 86) (hd := d_Ward_ofLorry_14) (h := by decide +kernel) (K := ?_)
    refine r_aload_n hG (hl0 := rfl) (hd := d_Ward_ofLorry_86) (K := ?_)
    refine g_Ward_228 hG (hi := by omega) (hd := d_Ward_ofLorry_87) (K := ?_)
    refine r_iret hG d_Ward_ofLorry_90 ⟨(Nat.le_of_ble_eq_true rfl), (Nat.le_of_ble_eq_true rfl)⟩ ?_
    exact ⟨rfl, rfl⟩
  | w + 7, h => exact absurd h (by omega)
def baF (S : St) (b w : Nat) : Int := match w with
  | 0 => S 55 b 0
  | 1 => S 56 b 0
  | 2 => S 57 b 0
  | _ => S 58 b 0
theorem ct_ofBale {Γ : Gm} {S : St} {n k w : Nat} (hn : S 52 0 0 = (n : Int)) (hn20 : n ≤ 20) (hk : k < n) (hw : w < 4) : CT Γ y_Ward_ofBale b_Ward_ofBale 4 ((some FieldType.int)) (rmx 3 0 0) [rf Γ 0 0, nt k, nt w] S (dX (some (nt (baF S k w))) S) := by
  match w, hw with
  | 0, _ =>
    refine CT.of (by first | exact plainFor_of_name (by rfl) | decide +kernel) (Nat.le_of_ble_eq_true rfl) ?_
    intro G hG
    show G (0, 0) 0 [(0, rf Γ 0 0), (1, nt k), (2, nt ((0 : Nat) : Int))] [] _
    refine r_aload_n hG (hl0 := rfl) (hd := d_Ward_ofBale_0) (K := ?_)
    refine r_iload_n hG (hl0 := rfl) (hd := d_Ward_ofBale_1) (K := ?_)
    refine cVx hG w_Ward_155 d_Ward_ofBale_2 (ct_baleAt hn hn20 hk) (by decide) (by decide) rc_0 rfl rfl ⟨(Nat.le_of_ble_eq_true rfl), (Nat.le_of_ble_eq_true rfl)⟩ ⟨(Nat.le_of_ble_eq_true rfl), (Nat.le_of_ble_eq_true rfl)⟩ (Nat.le_of_ble_eq_true rfl) ?_
    refine r_astore_n hG (hd := d_Ward_ofBale_5) (K := ?_)
    refine r_iload_n hG (hl0 := rfl) (hd := d_Ward_ofBale_6) (K := ?_)
    refine r_iconst hG (hd := d_Ward_ofBale_7) (K := ?_)
    refine r_iconst hG (hd := d_Ward_ofBale_8) (K := ?_)
    refine cSv hG w_Ward_82 d_Ward_ofBale_9 (ct_ckV (by omega) (by omega)) rfl rfl ⟨(Nat.le_of_ble_eq_true rfl), (Nat.le_of_ble_eq_true rfl)⟩ ⟨(Nat.le_of_ble_eq_true rfl), (Nat.le_of_ble_eq_true rfl)⟩ (Nat.le_of_ble_eq_true rfl) ?_
    refine r_iload_n hG (hl0 := rfl) (hd := d_Ward_ofBale_12) (K := ?_)
    refine r_tsIn hG (tgt := 40) (off := 27) (hd := d_Ward_ofBale_13) (h := by decide +kernel) (K := ?_)
    refine r_aload_n hG (hl0 := rfl) (hd := d_Ward_ofBale_40) (K := ?_)
    refine g_Ward_231 hG (hi := by omega) (hd := d_Ward_ofBale_41) (K := ?_)
    refine r_iret hG d_Ward_ofBale_44 ⟨(Nat.le_of_ble_eq_true rfl), (Nat.le_of_ble_eq_true rfl)⟩ ?_
    exact ⟨rfl, rfl⟩
  | 1, _ =>
    refine CT.of (by first | exact plainFor_of_name (by rfl) | decide +kernel) (Nat.le_of_ble_eq_true rfl) ?_
    intro G hG
    show G (0, 0) 0 [(0, rf Γ 0 0), (1, nt k), (2, nt ((1 : Nat) : Int))] [] _
    refine r_aload_n hG (hl0 := rfl) (hd := d_Ward_ofBale_0) (K := ?_)
    refine r_iload_n hG (hl0 := rfl) (hd := d_Ward_ofBale_1) (K := ?_)
    refine cVx hG w_Ward_155 d_Ward_ofBale_2 (ct_baleAt hn hn20 hk) (by decide) (by decide) rc_0 rfl rfl ⟨(Nat.le_of_ble_eq_true rfl), (Nat.le_of_ble_eq_true rfl)⟩ ⟨(Nat.le_of_ble_eq_true rfl), (Nat.le_of_ble_eq_true rfl)⟩ (Nat.le_of_ble_eq_true rfl) ?_
    refine r_astore_n hG (hd := d_Ward_ofBale_5) (K := ?_)
    refine r_iload_n hG (hl0 := rfl) (hd := d_Ward_ofBale_6) (K := ?_)
    refine r_iconst hG (hd := d_Ward_ofBale_7) (K := ?_)
    refine r_iconst hG (hd := d_Ward_ofBale_8) (K := ?_)
    refine cSv hG w_Ward_82 d_Ward_ofBale_9 (ct_ckV (by omega) (by omega)) rfl rfl ⟨(Nat.le_of_ble_eq_true rfl), (Nat.le_of_ble_eq_true rfl)⟩ ⟨(Nat.le_of_ble_eq_true rfl), (Nat.le_of_ble_eq_true rfl)⟩ (Nat.le_of_ble_eq_true rfl) ?_
    refine r_iload_n hG (hl0 := rfl) (hd := d_Ward_ofBale_12) (K := ?_)
    refine r_tsIn hG (tgt := 45) (off := 32) (hd := d_Ward_ofBale_13) (h := by decide +kernel) (K := ?_)
    refine r_aload_n hG (hl0 := rfl) (hd := d_Ward_ofBale_45) (K := ?_)
    refine g_Ward_166 hG (hi := by omega) (hd := d_Ward_ofBale_46) (K := ?_)
    refine r_iret hG d_Ward_ofBale_49 ⟨(Nat.le_of_ble_eq_true rfl), (Nat.le_of_ble_eq_true rfl)⟩ ?_
    exact ⟨rfl, rfl⟩
  | 2, _ =>
    refine CT.of (by first | exact plainFor_of_name (by rfl) | decide +kernel) (Nat.le_of_ble_eq_true rfl) ?_
    intro G hG
    show G (0, 0) 0 [(0, rf Γ 0 0), (1, nt k), (2, nt ((2 : Nat) : Int))] [] _
    refine r_aload_n hG (hl0 := rfl) (hd := d_Ward_ofBale_0) (K := ?_)
    refine r_iload_n hG (hl0 := rfl) (hd := d_Ward_ofBale_1) (K := ?_)
    refine cVx hG w_Ward_155 d_Ward_ofBale_2 (ct_baleAt hn hn20 hk) (by decide) (by decide) rc_0 rfl rfl ⟨(Nat.le_of_ble_eq_true rfl), (Nat.le_of_ble_eq_true rfl)⟩ ⟨(Nat.le_of_ble_eq_true rfl), (Nat.le_of_ble_eq_true rfl)⟩ (Nat.le_of_ble_eq_true rfl) ?_
    refine r_astore_n hG (hd := d_Ward_ofBale_5) (K := ?_)
    refine r_iload_n hG (hl0 := rfl) (hd := d_Ward_ofBale_6) (K := ?_)
    refine r_iconst hG (hd := d_Ward_ofBale_7) (K := ?_)
    refine r_iconst hG (hd := d_Ward_ofBale_8) (K := ?_)
    refine cSv hG w_Ward_82 d_Ward_ofBale_9 (ct_ckV (by omega) (by omega)) rfl rfl ⟨(Nat.le_of_ble_eq_true rfl), (Nat.le_of_ble_eq_true rfl)⟩ ⟨(Nat.le_of_ble_eq_true rfl), (Nat.le_of_ble_eq_true rfl)⟩ (Nat.le_of_ble_eq_true rfl) ?_
    refine r_iload_n hG (hl0 := rfl) (hd := d_Ward_ofBale_12) (K := ?_)
    refine r_tsIn hG (tgt := 50) (off := 37) (hd := d_Ward_ofBale_13) (h := by decide +kernel) (K := ?_)
    refine r_aload_n hG (hl0 := rfl) (hd := d_Ward_ofBale_50) (K := ?_)
    refine g_Ward_159 hG (hi := by omega) (hd := d_Ward_ofBale_51) (K := ?_)
    refine r_iret hG d_Ward_ofBale_54 ⟨(Nat.le_of_ble_eq_true rfl), (Nat.le_of_ble_eq_true rfl)⟩ ?_
    exact ⟨rfl, rfl⟩
  | 3, _ =>
    refine CT.of (by first | exact plainFor_of_name (by rfl) | decide +kernel) (Nat.le_of_ble_eq_true rfl) ?_
    intro G hG
    show G (0, 0) 0 [(0, rf Γ 0 0), (1, nt k), (2, nt ((3 : Nat) : Int))] [] _
    refine r_aload_n hG (hl0 := rfl) (hd := d_Ward_ofBale_0) (K := ?_)
    refine r_iload_n hG (hl0 := rfl) (hd := d_Ward_ofBale_1) (K := ?_)
    refine cVx hG w_Ward_155 d_Ward_ofBale_2 (ct_baleAt hn hn20 hk) (by decide) (by decide) rc_0 rfl rfl ⟨(Nat.le_of_ble_eq_true rfl), (Nat.le_of_ble_eq_true rfl)⟩ ⟨(Nat.le_of_ble_eq_true rfl), (Nat.le_of_ble_eq_true rfl)⟩ (Nat.le_of_ble_eq_true rfl) ?_
    refine r_astore_n hG (hd := d_Ward_ofBale_5) (K := ?_)
    refine r_iload_n hG (hl0 := rfl) (hd := d_Ward_ofBale_6) (K := ?_)
    refine r_iconst hG (hd := d_Ward_ofBale_7) (K := ?_)
    refine r_iconst hG (hd := d_Ward_ofBale_8) (K := ?_)
    refine cSv hG w_Ward_82 d_Ward_ofBale_9 (ct_ckV (by omega) (by omega)) rfl rfl ⟨(Nat.le_of_ble_eq_true rfl), (Nat.le_of_ble_eq_true rfl)⟩ ⟨(Nat.le_of_ble_eq_true rfl), (Nat.le_of_ble_eq_true rfl)⟩ (Nat.le_of_ble_eq_true rfl) ?_
    refine r_iload_n hG (hl0 := rfl) (hd := d_Ward_ofBale_12) (K := ?_)
    refine r_tsOut hG (tgt := 55) (hd := d_Ward_ofBale_13) (h := by decide +kernel) (K := ?_)
    refine r_aload_n hG (hl0 := rfl) (hd := d_Ward_ofBale_55) (K := ?_)
    refine g_Ward_233 hG (hi := by omega) (hd := d_Ward_ofBale_56) (K := ?_)
    refine r_iret hG d_Ward_ofBale_59 ⟨(Nat.le_of_ble_eq_true rfl), (Nat.le_of_ble_eq_true rfl)⟩ ?_
    exact ⟨rfl, rfl⟩
  | w + 4, h => exact absurd h (by omega)
def maF (S : St) (w : Nat) : Int := match w with
  | 0 => S 2 0 0
  | 1 => S 50 0 0
  | 2 => S 51 0 0
  | 3 => S 52 0 0
  | 4 => cntIn S 0 (S 52 0 0).toNat
  | 5 => S 65 0 0
  | 6 => S 66 0 0
  | 7 => S 67 0 0
  | 8 => S 68 0 0
  | 9 => S 70 0 0
  | 10 => S 71 0 0
  | 11 => S 72 0 0
  | 12 => S 62 0 0
  | 13 => S 63 0 0
  | 14 => S 64 0 0
  | 15 => S 3 0 0 - S 73 0 0
  | 16 => fetN S (S 1 0 0).toNat
  | _ => litN S 0 (S 0 0 0).toNat
theorem ct_many {Γ : Gm} {S : St} {ns nl nb w : Nat} (hs : S 0 0 0 = (ns : Int)) (hs6 : ns ≤ 6) (hl : S 1 0 0 = (nl : Int)) (hl3 : nl ≤ 3) (hb : S 52 0 0 = (nb : Int)) (hb20 : nb ≤ 20) (h57 : ∀ b, b < 20 → 0 ≤ S 57 b 0 ∧ S 57 b 0 ≤ 3) (hw : w < 18) : CT Γ y_Ward_many b_Ward_many 2 ((some FieldType.int)) (rmx 2 0 0) [rf Γ 0 0, nt w] S (dX (some (nt (maF S w))) S) := by
  have e4 : maF S 4 = cntIn S 0 nb := by simp only [maF]; rw [hb, Int.toNat_natCast]
  have e16 : maF S 16 = fetN S nl := by simp only [maF]; rw [hl, Int.toNat_natCast]
  have e17 : maF S 17 = litN S 0 ns := by simp only [maF]; rw [hs, Int.toNat_natCast]
  match w, hw with
  | 0, _ =>
    refine CT.of (by first | exact plainFor_of_name (by rfl) | decide +kernel) (Nat.le_of_ble_eq_true rfl) ?_
    intro G hG
    show G (0, 0) 0 [(0, rf Γ 0 0), (1, nt ((0 : Nat) : Int))] [] _
    refine r_iload_n hG (hl0 := rfl) (hd := d_Ward_many_0) (K := ?_)
    refine r_iconst hG (hd := d_Ward_many_1) (K := ?_)
    refine r_bipush hG (hd := d_Ward_many_2) (K := ?_)
    refine cSv hG w_Ward_82 d_Ward_many_4 (ct_ckV (by omega) (by omega)) rfl rfl ⟨(Nat.le_of_ble_eq_true rfl), (Nat.le_of_ble_eq_true rfl)⟩ ⟨(Nat.le_of_ble_eq_true rfl), (Nat.le_of_ble_eq_true rfl)⟩ (Nat.le_of_ble_eq_true rfl) ?_
    refine r_iload_n hG (hl0 := rfl) (hd := d_Ward_many_7) (K := ?_)
    refine r_tsIn hG (tgt := 92) (off := 84) (hd := d_Ward_many_8) (h := by decide +kernel) (K := ?_)
    refine r_aload_n hG (hl0 := rfl) (hd := d_Ward_many_92) (K := ?_)
    refine g_Ward_187 hG (hd := d_Ward_many_93) (K := ?_)
    refine r_iret hG d_Ward_many_96 ⟨(Nat.le_of_ble_eq_true rfl), (Nat.le_of_ble_eq_true rfl)⟩ ?_
    exact ⟨rfl, rfl⟩
  | 1, _ =>
    refine CT.of (by first | exact plainFor_of_name (by rfl) | decide +kernel) (Nat.le_of_ble_eq_true rfl) ?_
    intro G hG
    show G (0, 0) 0 [(0, rf Γ 0 0), (1, nt ((1 : Nat) : Int))] [] _
    refine r_iload_n hG (hl0 := rfl) (hd := d_Ward_many_0) (K := ?_)
    refine r_iconst hG (hd := d_Ward_many_1) (K := ?_)
    refine r_bipush hG (hd := d_Ward_many_2) (K := ?_)
    refine cSv hG w_Ward_82 d_Ward_many_4 (ct_ckV (by omega) (by omega)) rfl rfl ⟨(Nat.le_of_ble_eq_true rfl), (Nat.le_of_ble_eq_true rfl)⟩ ⟨(Nat.le_of_ble_eq_true rfl), (Nat.le_of_ble_eq_true rfl)⟩ (Nat.le_of_ble_eq_true rfl) ?_
    refine r_iload_n hG (hl0 := rfl) (hd := d_Ward_many_7) (K := ?_)
    refine r_tsIn hG (tgt := 97) (off := 89) (hd := d_Ward_many_8) (h := by decide +kernel) (K := ?_)
    refine r_aload_n hG (hl0 := rfl) (hd := d_Ward_many_97) (K := ?_)
    refine g_Ward_55 hG (hd := d_Ward_many_98) (K := ?_)
    refine g_Ward_236 hG (hd := d_Ward_many_101) (K := ?_)
    refine r_iret hG d_Ward_many_104 ⟨(Nat.le_of_ble_eq_true rfl), (Nat.le_of_ble_eq_true rfl)⟩ ?_
    exact ⟨rfl, rfl⟩
  | 2, _ =>
    refine CT.of (by first | exact plainFor_of_name (by rfl) | decide +kernel) (Nat.le_of_ble_eq_true rfl) ?_
    intro G hG
    show G (0, 0) 0 [(0, rf Γ 0 0), (1, nt ((2 : Nat) : Int))] [] _
    refine r_iload_n hG (hl0 := rfl) (hd := d_Ward_many_0) (K := ?_)
    refine r_iconst hG (hd := d_Ward_many_1) (K := ?_)
    refine r_bipush hG (hd := d_Ward_many_2) (K := ?_)
    refine cSv hG w_Ward_82 d_Ward_many_4 (ct_ckV (by omega) (by omega)) rfl rfl ⟨(Nat.le_of_ble_eq_true rfl), (Nat.le_of_ble_eq_true rfl)⟩ ⟨(Nat.le_of_ble_eq_true rfl), (Nat.le_of_ble_eq_true rfl)⟩ (Nat.le_of_ble_eq_true rfl) ?_
    refine r_iload_n hG (hl0 := rfl) (hd := d_Ward_many_7) (K := ?_)
    refine r_tsIn hG (tgt := 105) (off := 97) (hd := d_Ward_many_8) (h := by decide +kernel) (K := ?_)
    refine r_aload_n hG (hl0 := rfl) (hd := d_Ward_many_105) (K := ?_)
    refine g_Ward_55 hG (hd := d_Ward_many_106) (K := ?_)
    refine g_Ward_237 hG (hd := d_Ward_many_109) (K := ?_)
    refine r_iret hG d_Ward_many_112 ⟨(Nat.le_of_ble_eq_true rfl), (Nat.le_of_ble_eq_true rfl)⟩ ?_
    exact ⟨rfl, rfl⟩
  | 3, _ =>
    refine CT.of (by first | exact plainFor_of_name (by rfl) | decide +kernel) (Nat.le_of_ble_eq_true rfl) ?_
    intro G hG
    show G (0, 0) 0 [(0, rf Γ 0 0), (1, nt ((3 : Nat) : Int))] [] _
    refine r_iload_n hG (hl0 := rfl) (hd := d_Ward_many_0) (K := ?_)
    refine r_iconst hG (hd := d_Ward_many_1) (K := ?_)
    refine r_bipush hG (hd := d_Ward_many_2) (K := ?_)
    refine cSv hG w_Ward_82 d_Ward_many_4 (ct_ckV (by omega) (by omega)) rfl rfl ⟨(Nat.le_of_ble_eq_true rfl), (Nat.le_of_ble_eq_true rfl)⟩ ⟨(Nat.le_of_ble_eq_true rfl), (Nat.le_of_ble_eq_true rfl)⟩ (Nat.le_of_ble_eq_true rfl) ?_
    refine r_iload_n hG (hl0 := rfl) (hd := d_Ward_many_7) (K := ?_)
    refine r_tsIn hG (tgt := 113) (off := 105) (hd := d_Ward_many_8) (h := by decide +kernel) (K := ?_)
    refine r_aload_n hG (hl0 := rfl) (hd := d_Ward_many_113) (K := ?_)
    refine g_Ward_55 hG (hd := d_Ward_many_114) (K := ?_)
    refine g_Ward_238 hG (hd := d_Ward_many_117) (K := ?_)
    refine r_iret hG d_Ward_many_120 ⟨(Nat.le_of_ble_eq_true rfl), (Nat.le_of_ble_eq_true rfl)⟩ ?_
    exact ⟨rfl, rfl⟩
  | 4, _ =>
    refine CT.of (by first | exact plainFor_of_name (by rfl) | decide +kernel) (Nat.le_of_ble_eq_true rfl) ?_
    intro G hG
    show G (0, 0) 0 [(0, rf Γ 0 0), (1, nt ((4 : Nat) : Int))] [] _
    refine r_iload_n hG (hl0 := rfl) (hd := d_Ward_many_0) (K := ?_)
    refine r_iconst hG (hd := d_Ward_many_1) (K := ?_)
    refine r_bipush hG (hd := d_Ward_many_2) (K := ?_)
    refine cSv hG w_Ward_82 d_Ward_many_4 (ct_ckV (by omega) (by omega)) rfl rfl ⟨(Nat.le_of_ble_eq_true rfl), (Nat.le_of_ble_eq_true rfl)⟩ ⟨(Nat.le_of_ble_eq_true rfl), (Nat.le_of_ble_eq_true rfl)⟩ (Nat.le_of_ble_eq_true rfl) ?_
    refine r_iload_n hG (hl0 := rfl) (hd := d_Ward_many_7) (K := ?_)
    refine r_tsIn hG (tgt := 121) (off := 113) (hd := d_Ward_many_8) (h := by decide +kernel) (K := ?_)
    refine r_aload_n hG (hl0 := rfl) (hd := d_Ward_many_121) (K := ?_)
    refine g_Ward_55 hG (hd := d_Ward_many_122) (K := ?_)
    refine r_iconst hG (hd := d_Ward_many_125) (K := ?_)
    refine cVx hG w_Ward_241 d_Ward_many_126 (ct_countIn hb hb20 (by omega) h57) (by decide) (by decide) rc_9 rfl rfl ⟨(Nat.le_of_ble_eq_true rfl), (Nat.le_of_ble_eq_true rfl)⟩ ⟨(Nat.le_of_ble_eq_true rfl), (Nat.le_of_ble_eq_true rfl)⟩ (Nat.le_of_ble_eq_true rfl) ?_
    refine r_iret hG d_Ward_many_129 ⟨(Nat.le_of_ble_eq_true rfl), (Nat.le_of_ble_eq_true rfl)⟩ ?_
    exact ⟨by rw [e4]; rfl, rfl⟩
  | 5, _ =>
    refine CT.of (by first | exact plainFor_of_name (by rfl) | decide +kernel) (Nat.le_of_ble_eq_true rfl) ?_
    intro G hG
    show G (0, 0) 0 [(0, rf Γ 0 0), (1, nt ((5 : Nat) : Int))] [] _
    refine r_iload_n hG (hl0 := rfl) (hd := d_Ward_many_0) (K := ?_)
    refine r_iconst hG (hd := d_Ward_many_1) (K := ?_)
    refine r_bipush hG (hd := d_Ward_many_2) (K := ?_)
    refine cSv hG w_Ward_82 d_Ward_many_4 (ct_ckV (by omega) (by omega)) rfl rfl ⟨(Nat.le_of_ble_eq_true rfl), (Nat.le_of_ble_eq_true rfl)⟩ ⟨(Nat.le_of_ble_eq_true rfl), (Nat.le_of_ble_eq_true rfl)⟩ (Nat.le_of_ble_eq_true rfl) ?_
    refine r_iload_n hG (hl0 := rfl) (hd := d_Ward_many_7) (K := ?_)
    refine r_tsIn hG (tgt := 130) (off := 122) (hd := d_Ward_many_8) (h := by decide +kernel) (K := ?_)
    refine r_aload_n hG (hl0 := rfl) (hd := d_Ward_many_130) (K := ?_)
    refine g_Ward_69 hG (hd := d_Ward_many_131) (K := ?_)
    refine g_Ward_244 hG (hd := d_Ward_many_134) (K := ?_)
    refine r_iret hG d_Ward_many_137 ⟨(Nat.le_of_ble_eq_true rfl), (Nat.le_of_ble_eq_true rfl)⟩ ?_
    exact ⟨rfl, rfl⟩
  | 6, _ =>
    refine CT.of (by first | exact plainFor_of_name (by rfl) | decide +kernel) (Nat.le_of_ble_eq_true rfl) ?_
    intro G hG
    show G (0, 0) 0 [(0, rf Γ 0 0), (1, nt ((6 : Nat) : Int))] [] _
    refine r_iload_n hG (hl0 := rfl) (hd := d_Ward_many_0) (K := ?_)
    refine r_iconst hG (hd := d_Ward_many_1) (K := ?_)
    refine r_bipush hG (hd := d_Ward_many_2) (K := ?_)
    refine cSv hG w_Ward_82 d_Ward_many_4 (ct_ckV (by omega) (by omega)) rfl rfl ⟨(Nat.le_of_ble_eq_true rfl), (Nat.le_of_ble_eq_true rfl)⟩ ⟨(Nat.le_of_ble_eq_true rfl), (Nat.le_of_ble_eq_true rfl)⟩ (Nat.le_of_ble_eq_true rfl) ?_
    refine r_iload_n hG (hl0 := rfl) (hd := d_Ward_many_7) (K := ?_)
    refine r_tsIn hG (tgt := 138) (off := 130) (hd := d_Ward_many_8) (h := by decide +kernel) (K := ?_)
    refine r_aload_n hG (hl0 := rfl) (hd := d_Ward_many_138) (K := ?_)
    refine g_Ward_69 hG (hd := d_Ward_many_139) (K := ?_)
    refine g_Ward_245 hG (hd := d_Ward_many_142) (K := ?_)
    refine r_iret hG d_Ward_many_145 ⟨(Nat.le_of_ble_eq_true rfl), (Nat.le_of_ble_eq_true rfl)⟩ ?_
    exact ⟨rfl, rfl⟩
  | 7, _ =>
    refine CT.of (by first | exact plainFor_of_name (by rfl) | decide +kernel) (Nat.le_of_ble_eq_true rfl) ?_
    intro G hG
    show G (0, 0) 0 [(0, rf Γ 0 0), (1, nt ((7 : Nat) : Int))] [] _
    refine r_iload_n hG (hl0 := rfl) (hd := d_Ward_many_0) (K := ?_)
    refine r_iconst hG (hd := d_Ward_many_1) (K := ?_)
    refine r_bipush hG (hd := d_Ward_many_2) (K := ?_)
    refine cSv hG w_Ward_82 d_Ward_many_4 (ct_ckV (by omega) (by omega)) rfl rfl ⟨(Nat.le_of_ble_eq_true rfl), (Nat.le_of_ble_eq_true rfl)⟩ ⟨(Nat.le_of_ble_eq_true rfl), (Nat.le_of_ble_eq_true rfl)⟩ (Nat.le_of_ble_eq_true rfl) ?_
    refine r_iload_n hG (hl0 := rfl) (hd := d_Ward_many_7) (K := ?_)
    refine r_tsIn hG (tgt := 146) (off := 138) (hd := d_Ward_many_8) (h := by decide +kernel) (K := ?_)
    refine r_aload_n hG (hl0 := rfl) (hd := d_Ward_many_146) (K := ?_)
    refine g_Ward_69 hG (hd := d_Ward_many_147) (K := ?_)
    refine g_Ward_246 hG (hd := d_Ward_many_150) (K := ?_)
    refine r_iret hG d_Ward_many_153 ⟨(Nat.le_of_ble_eq_true rfl), (Nat.le_of_ble_eq_true rfl)⟩ ?_
    exact ⟨rfl, rfl⟩
  | 8, _ =>
    refine CT.of (by first | exact plainFor_of_name (by rfl) | decide +kernel) (Nat.le_of_ble_eq_true rfl) ?_
    intro G hG
    show G (0, 0) 0 [(0, rf Γ 0 0), (1, nt ((8 : Nat) : Int))] [] _
    refine r_iload_n hG (hl0 := rfl) (hd := d_Ward_many_0) (K := ?_)
    refine r_iconst hG (hd := d_Ward_many_1) (K := ?_)
    refine r_bipush hG (hd := d_Ward_many_2) (K := ?_)
    refine cSv hG w_Ward_82 d_Ward_many_4 (ct_ckV (by omega) (by omega)) rfl rfl ⟨(Nat.le_of_ble_eq_true rfl), (Nat.le_of_ble_eq_true rfl)⟩ ⟨(Nat.le_of_ble_eq_true rfl), (Nat.le_of_ble_eq_true rfl)⟩ (Nat.le_of_ble_eq_true rfl) ?_
    refine r_iload_n hG (hl0 := rfl) (hd := d_Ward_many_7) (K := ?_)
    refine r_tsIn hG (tgt := 154) (off := 146) (hd := d_Ward_many_8) (h := by decide +kernel) (K := ?_)
    refine r_aload_n hG (hl0 := rfl) (hd := d_Ward_many_154) (K := ?_)
    refine g_Ward_69 hG (hd := d_Ward_many_155) (K := ?_)
    refine g_Ward_249 hG (hd := d_Ward_many_158) (K := ?_)
    refine r_iret hG d_Ward_many_161 ⟨(Nat.le_of_ble_eq_true rfl), (Nat.le_of_ble_eq_true rfl)⟩ ?_
    exact ⟨rfl, rfl⟩
  | 9, _ =>
    refine CT.of (by first | exact plainFor_of_name (by rfl) | decide +kernel) (Nat.le_of_ble_eq_true rfl) ?_
    intro G hG
    show G (0, 0) 0 [(0, rf Γ 0 0), (1, nt ((9 : Nat) : Int))] [] _
    refine r_iload_n hG (hl0 := rfl) (hd := d_Ward_many_0) (K := ?_)
    refine r_iconst hG (hd := d_Ward_many_1) (K := ?_)
    refine r_bipush hG (hd := d_Ward_many_2) (K := ?_)
    refine cSv hG w_Ward_82 d_Ward_many_4 (ct_ckV (by omega) (by omega)) rfl rfl ⟨(Nat.le_of_ble_eq_true rfl), (Nat.le_of_ble_eq_true rfl)⟩ ⟨(Nat.le_of_ble_eq_true rfl), (Nat.le_of_ble_eq_true rfl)⟩ (Nat.le_of_ble_eq_true rfl) ?_
    refine r_iload_n hG (hl0 := rfl) (hd := d_Ward_many_7) (K := ?_)
    refine r_tsIn hG (tgt := 162) (off := 154) (hd := d_Ward_many_8) (h := by decide +kernel) (K := ?_)
    refine r_aload_n hG (hl0 := rfl) (hd := d_Ward_many_162) (K := ?_)
    refine g_Ward_76 hG (hd := d_Ward_many_163) (K := ?_)
    refine g_Ward_252 hG (hd := d_Ward_many_166) (K := ?_)
    refine r_iret hG d_Ward_many_169 ⟨(Nat.le_of_ble_eq_true rfl), (Nat.le_of_ble_eq_true rfl)⟩ ?_
    exact ⟨rfl, rfl⟩
  | 10, _ =>
    refine CT.of (by first | exact plainFor_of_name (by rfl) | decide +kernel) (Nat.le_of_ble_eq_true rfl) ?_
    intro G hG
    show G (0, 0) 0 [(0, rf Γ 0 0), (1, nt ((10 : Nat) : Int))] [] _
    refine r_iload_n hG (hl0 := rfl) (hd := d_Ward_many_0) (K := ?_)
    refine r_iconst hG (hd := d_Ward_many_1) (K := ?_)
    refine r_bipush hG (hd := d_Ward_many_2) (K := ?_)
    refine cSv hG w_Ward_82 d_Ward_many_4 (ct_ckV (by omega) (by omega)) rfl rfl ⟨(Nat.le_of_ble_eq_true rfl), (Nat.le_of_ble_eq_true rfl)⟩ ⟨(Nat.le_of_ble_eq_true rfl), (Nat.le_of_ble_eq_true rfl)⟩ (Nat.le_of_ble_eq_true rfl) ?_
    refine r_iload_n hG (hl0 := rfl) (hd := d_Ward_many_7) (K := ?_)
    refine r_tsIn hG (tgt := 170) (off := 162) (hd := d_Ward_many_8) (h := by decide +kernel) (K := ?_)
    refine r_aload_n hG (hl0 := rfl) (hd := d_Ward_many_170) (K := ?_)
    refine g_Ward_76 hG (hd := d_Ward_many_171) (K := ?_)
    refine g_Ward_254 hG (hd := d_Ward_many_174) (K := ?_)
    refine r_iret hG d_Ward_many_177 ⟨(Nat.le_of_ble_eq_true rfl), (Nat.le_of_ble_eq_true rfl)⟩ ?_
    exact ⟨rfl, rfl⟩
  | 11, _ =>
    refine CT.of (by first | exact plainFor_of_name (by rfl) | decide +kernel) (Nat.le_of_ble_eq_true rfl) ?_
    intro G hG
    show G (0, 0) 0 [(0, rf Γ 0 0), (1, nt ((11 : Nat) : Int))] [] _
    refine r_iload_n hG (hl0 := rfl) (hd := d_Ward_many_0) (K := ?_)
    refine r_iconst hG (hd := d_Ward_many_1) (K := ?_)
    refine r_bipush hG (hd := d_Ward_many_2) (K := ?_)
    refine cSv hG w_Ward_82 d_Ward_many_4 (ct_ckV (by omega) (by omega)) rfl rfl ⟨(Nat.le_of_ble_eq_true rfl), (Nat.le_of_ble_eq_true rfl)⟩ ⟨(Nat.le_of_ble_eq_true rfl), (Nat.le_of_ble_eq_true rfl)⟩ (Nat.le_of_ble_eq_true rfl) ?_
    refine r_iload_n hG (hl0 := rfl) (hd := d_Ward_many_7) (K := ?_)
    refine r_tsIn hG (tgt := 178) (off := 170) (hd := d_Ward_many_8) (h := by decide +kernel) (K := ?_)
    refine r_aload_n hG (hl0 := rfl) (hd := d_Ward_many_178) (K := ?_)
    refine g_Ward_76 hG (hd := d_Ward_many_179) (K := ?_)
    refine g_Ward_257 hG (hd := d_Ward_many_182) (K := ?_)
    refine r_iret hG d_Ward_many_185 ⟨(Nat.le_of_ble_eq_true rfl), (Nat.le_of_ble_eq_true rfl)⟩ ?_
    exact ⟨rfl, rfl⟩
  | 12, _ =>
    refine CT.of (by first | exact plainFor_of_name (by rfl) | decide +kernel) (Nat.le_of_ble_eq_true rfl) ?_
    intro G hG
    show G (0, 0) 0 [(0, rf Γ 0 0), (1, nt ((12 : Nat) : Int))] [] _
    refine r_iload_n hG (hl0 := rfl) (hd := d_Ward_many_0) (K := ?_)
    refine r_iconst hG (hd := d_Ward_many_1) (K := ?_)
    refine r_bipush hG (hd := d_Ward_many_2) (K := ?_)
    refine cSv hG w_Ward_82 d_Ward_many_4 (ct_ckV (by omega) (by omega)) rfl rfl ⟨(Nat.le_of_ble_eq_true rfl), (Nat.le_of_ble_eq_true rfl)⟩ ⟨(Nat.le_of_ble_eq_true rfl), (Nat.le_of_ble_eq_true rfl)⟩ (Nat.le_of_ble_eq_true rfl) ?_
    refine r_iload_n hG (hl0 := rfl) (hd := d_Ward_many_7) (K := ?_)
    refine r_tsIn hG (tgt := 186) (off := 178) (hd := d_Ward_many_8) (h := by decide +kernel) (K := ?_)
    refine r_aload_n hG (hl0 := rfl) (hd := d_Ward_many_186) (K := ?_)
    refine g_Ward_62 hG (hd := d_Ward_many_187) (K := ?_)
    refine g_Ward_260 hG (hd := d_Ward_many_190) (K := ?_)
    refine r_iret hG d_Ward_many_193 ⟨(Nat.le_of_ble_eq_true rfl), (Nat.le_of_ble_eq_true rfl)⟩ ?_
    exact ⟨rfl, rfl⟩
  | 13, _ =>
    refine CT.of (by first | exact plainFor_of_name (by rfl) | decide +kernel) (Nat.le_of_ble_eq_true rfl) ?_
    intro G hG
    show G (0, 0) 0 [(0, rf Γ 0 0), (1, nt ((13 : Nat) : Int))] [] _
    refine r_iload_n hG (hl0 := rfl) (hd := d_Ward_many_0) (K := ?_)
    refine r_iconst hG (hd := d_Ward_many_1) (K := ?_)
    refine r_bipush hG (hd := d_Ward_many_2) (K := ?_)
    refine cSv hG w_Ward_82 d_Ward_many_4 (ct_ckV (by omega) (by omega)) rfl rfl ⟨(Nat.le_of_ble_eq_true rfl), (Nat.le_of_ble_eq_true rfl)⟩ ⟨(Nat.le_of_ble_eq_true rfl), (Nat.le_of_ble_eq_true rfl)⟩ (Nat.le_of_ble_eq_true rfl) ?_
    refine r_iload_n hG (hl0 := rfl) (hd := d_Ward_many_7) (K := ?_)
    refine r_tsIn hG (tgt := 194) (off := 186) (hd := d_Ward_many_8) (h := by decide +kernel) (K := ?_)
    refine r_aload_n hG (hl0 := rfl) (hd := d_Ward_many_194) (K := ?_)
    refine g_Ward_62 hG (hd := d_Ward_many_195) (K := ?_)
    refine g_Ward_263 hG (hd := d_Ward_many_198) (K := ?_)
    refine r_iret hG d_Ward_many_201 ⟨(Nat.le_of_ble_eq_true rfl), (Nat.le_of_ble_eq_true rfl)⟩ ?_
    exact ⟨rfl, rfl⟩
  | 14, _ =>
    refine CT.of (by first | exact plainFor_of_name (by rfl) | decide +kernel) (Nat.le_of_ble_eq_true rfl) ?_
    intro G hG
    show G (0, 0) 0 [(0, rf Γ 0 0), (1, nt ((14 : Nat) : Int))] [] _
    refine r_iload_n hG (hl0 := rfl) (hd := d_Ward_many_0) (K := ?_)
    refine r_iconst hG (hd := d_Ward_many_1) (K := ?_)
    refine r_bipush hG (hd := d_Ward_many_2) (K := ?_)
    refine cSv hG w_Ward_82 d_Ward_many_4 (ct_ckV (by omega) (by omega)) rfl rfl ⟨(Nat.le_of_ble_eq_true rfl), (Nat.le_of_ble_eq_true rfl)⟩ ⟨(Nat.le_of_ble_eq_true rfl), (Nat.le_of_ble_eq_true rfl)⟩ (Nat.le_of_ble_eq_true rfl) ?_
    refine r_iload_n hG (hl0 := rfl) (hd := d_Ward_many_7) (K := ?_)
    refine r_tsIn hG (tgt := 202) (off := 194) (hd := d_Ward_many_8) (h := by decide +kernel) (K := ?_)
    refine r_aload_n hG (hl0 := rfl) (hd := d_Ward_many_202) (K := ?_)
    refine g_Ward_62 hG (hd := d_Ward_many_203) (K := ?_)
    refine g_Ward_266 hG (hd := d_Ward_many_206) (K := ?_)
    refine r_iret hG d_Ward_many_209 ⟨(Nat.le_of_ble_eq_true rfl), (Nat.le_of_ble_eq_true rfl)⟩ ?_
    exact ⟨rfl, rfl⟩
  | 15, _ =>
    refine CT.of (by first | exact plainFor_of_name (by rfl) | decide +kernel) (Nat.le_of_ble_eq_true rfl) ?_
    intro G hG
    show G (0, 0) 0 [(0, rf Γ 0 0), (1, nt ((15 : Nat) : Int))] [] _
    refine r_iload_n hG (hl0 := rfl) (hd := d_Ward_many_0) (K := ?_)
    refine r_iconst hG (hd := d_Ward_many_1) (K := ?_)
    refine r_bipush hG (hd := d_Ward_many_2) (K := ?_)
    refine cSv hG w_Ward_82 d_Ward_many_4 (ct_ckV (by omega) (by omega)) rfl rfl ⟨(Nat.le_of_ble_eq_true rfl), (Nat.le_of_ble_eq_true rfl)⟩ ⟨(Nat.le_of_ble_eq_true rfl), (Nat.le_of_ble_eq_true rfl)⟩ (Nat.le_of_ble_eq_true rfl) ?_
    refine r_iload_n hG (hl0 := rfl) (hd := d_Ward_many_7) (K := ?_)
    refine r_tsIn hG (tgt := 210) (off := 202) (hd := d_Ward_many_8) (h := by decide +kernel) (K := ?_)
    refine r_aload_n hG (hl0 := rfl) (hd := d_Ward_many_210) (K := ?_)
    refine g_Ward_169 hG (hd := d_Ward_many_211) (K := ?_)
    refine r_aload_n hG (hl0 := rfl) (hd := d_Ward_many_214) (K := ?_)
    refine g_Ward_76 hG (hd := d_Ward_many_215) (K := ?_)
    refine g_Ward_269 hG (hd := d_Ward_many_218) (K := ?_)
    first | refine r_isub hG (hd := d_Ward_many_221) (K := ?_) | refine r_isubr hG (hd := d_Ward_many_221) (K := ?_)
    refine r_iret hG d_Ward_many_222 ⟨(Nat.le_of_ble_eq_true rfl), (Nat.le_of_ble_eq_true rfl)⟩ ?_
    exact ⟨rfl, rfl⟩
  | 16, _ =>
    refine CT.of (by first | exact plainFor_of_name (by rfl) | decide +kernel) (Nat.le_of_ble_eq_true rfl) ?_
    intro G hG
    show G (0, 0) 0 [(0, rf Γ 0 0), (1, nt ((16 : Nat) : Int))] [] _
    refine r_iload_n hG (hl0 := rfl) (hd := d_Ward_many_0) (K := ?_)
    refine r_iconst hG (hd := d_Ward_many_1) (K := ?_)
    refine r_bipush hG (hd := d_Ward_many_2) (K := ?_)
    refine cSv hG w_Ward_82 d_Ward_many_4 (ct_ckV (by omega) (by omega)) rfl rfl ⟨(Nat.le_of_ble_eq_true rfl), (Nat.le_of_ble_eq_true rfl)⟩ ⟨(Nat.le_of_ble_eq_true rfl), (Nat.le_of_ble_eq_true rfl)⟩ (Nat.le_of_ble_eq_true rfl) ?_
    refine r_iload_n hG (hl0 := rfl) (hd := d_Ward_many_7) (K := ?_)
    refine r_tsIn hG (tgt := 223) (off := 215) (hd := d_Ward_many_8) (h := by decide +kernel) (K := ?_)
    refine r_aload_n hG (hl0 := rfl) (hd := d_Ward_many_223) (K := ?_)
    refine cVx hG w_Ward_272 d_Ward_many_224 (ct_fetchedEver hl hl3) (by decide) (by decide) rc_0 rfl rfl ⟨(Nat.le_of_ble_eq_true rfl), (Nat.le_of_ble_eq_true rfl)⟩ ⟨(Nat.le_of_ble_eq_true rfl), (Nat.le_of_ble_eq_true rfl)⟩ (Nat.le_of_ble_eq_true rfl) ?_
    refine r_iret hG d_Ward_many_227 ⟨(Nat.le_of_ble_eq_true rfl), (Nat.le_of_ble_eq_true rfl)⟩ ?_
    exact ⟨by rw [e16]; rfl, rfl⟩
  | 17, _ =>
    refine CT.of (by first | exact plainFor_of_name (by rfl) | decide +kernel) (Nat.le_of_ble_eq_true rfl) ?_
    intro G hG
    show G (0, 0) 0 [(0, rf Γ 0 0), (1, nt ((17 : Nat) : Int))] [] _
    refine r_iload_n hG (hl0 := rfl) (hd := d_Ward_many_0) (K := ?_)
    refine r_iconst hG (hd := d_Ward_many_1) (K := ?_)
    refine r_bipush hG (hd := d_Ward_many_2) (K := ?_)
    refine cSv hG w_Ward_82 d_Ward_many_4 (ct_ckV (by omega) (by omega)) rfl rfl ⟨(Nat.le_of_ble_eq_true rfl), (Nat.le_of_ble_eq_true rfl)⟩ ⟨(Nat.le_of_ble_eq_true rfl), (Nat.le_of_ble_eq_true rfl)⟩ (Nat.le_of_ble_eq_true rfl) ?_
    refine r_iload_n hG (hl0 := rfl) (hd := d_Ward_many_7) (K := ?_)
    refine r_tsOut hG (tgt := 228) (hd := d_Ward_many_8) (h := by decide +kernel) (K := ?_)
    refine r_aload_n hG (hl0 := rfl) (hd := d_Ward_many_228) (K := ?_)
    refine r_aload_n hG (hl0 := rfl) (hd := d_Ward_many_229) (K := ?_)
    refine g_Ward_11 hG (hd := d_Ward_many_230) (K := ?_)
    refine cVx hG w_Ward_275 d_Ward_many_233 (ct_litterIn (by decide) hs hs6) (by decide) (by decide) rc_0 rfl rfl ⟨(Nat.le_of_ble_eq_true rfl), (Nat.le_of_ble_eq_true rfl)⟩ ⟨(Nat.le_of_ble_eq_true rfl), (Nat.le_of_ble_eq_true rfl)⟩ (Nat.le_of_ble_eq_true rfl) ?_
    refine r_iret hG d_Ward_many_236 ⟨(Nat.le_of_ble_eq_true rfl), (Nat.le_of_ble_eq_true rfl)⟩ ?_
    exact ⟨by rw [e17]; rfl, rfl⟩
  | w + 18, h => exact absurd h (by omega)
def usedF (S : St) (r : Nat) : Int :=
  if r = 0 then 40 * cntIn S 1 (S 52 0 0).toNat + S 69 0 0 else if r = 1 then cleanSold S (S 52 0 0).toNat + S 67 0 0 else cleanSold S (S 52 0 0).toNat + S 67 0 0 + S 63 0 0
theorem ct_used {Γ : Gm} {S : St} {nb r : Nat} (hb : S 52 0 0 = (nb : Int)) (hb20 : nb ≤ 20) (h57 : ∀ b, b < 20 → 0 ≤ S 57 b 0 ∧ S 57 b 0 ≤ 3) (hr : r < 3) : CT Γ y_Ward_countedAsUsed b_Ward_countedAsUsed 3 ((some FieldType.int)) (rmx 2 0 0) [rf Γ 0 0, nt r] S (dX (some (nt (usedF S r))) S) := by
  unfold usedF
  rw [hb, Int.toNat_natCast]
  refine CT.of (by first | exact plainFor_of_name (by rfl) | decide +kernel) (Nat.le_of_ble_eq_true rfl) ?_
  intro G hG
  show G (0, 0) 0 [(0, rf Γ 0 0), (1, nt r)] [] _
  refine r_iload_n hG (hl0 := rfl) (hd := d_Ward_countedAsUsed_0) (K := ?_)
  refine r_if_ne hG (hd := d_Ward_countedAsUsed_1) (kt := fun h => ?_) (kf := fun h => ?_)
  · rw [if_neg (show ¬ r = 0 by omega)] at hG
    refine r_aload_n hG (hl0 := rfl) (hd := d_Ward_countedAsUsed_24) (K := ?_)
    refine g_Ward_55 hG (hd := d_Ward_countedAsUsed_25) (K := ?_)
    refine cVx hG w_Ward_413 d_Ward_countedAsUsed_28 (ct_cleanSold hb hb20 h57) (by decide) (by decide) rc_9 rfl rfl ⟨(Nat.le_of_ble_eq_true rfl), (Nat.le_of_ble_eq_true rfl)⟩ ⟨(Nat.le_of_ble_eq_true rfl), (Nat.le_of_ble_eq_true rfl)⟩ (Nat.le_of_ble_eq_true rfl) ?_
    refine r_aload_n hG (hl0 := rfl) (hd := d_Ward_countedAsUsed_31) (K := ?_)
    refine g_Ward_69 hG (hd := d_Ward_countedAsUsed_32) (K := ?_)
    refine g_Ward_246 hG (hd := d_Ward_countedAsUsed_35) (K := ?_)
    first | refine r_iadd hG (hd := d_Ward_countedAsUsed_38) (K := ?_) | refine r_iaddr hG (hd := d_Ward_countedAsUsed_38) (K := ?_)
    refine r_istore_n hG (hd := d_Ward_countedAsUsed_39) (K := ?_)
    refine r_iload_n hG (hl0 := rfl) (hd := d_Ward_countedAsUsed_40) (K := ?_)
    refine r_iconst hG (hd := d_Ward_countedAsUsed_41) (K := ?_)
    refine r_icmp_ne hG (hd := d_Ward_countedAsUsed_42) (kt := fun h1 => ?_) (kf := fun h1 => ?_)
    · rw [if_neg (show ¬ r = 1 by omega)] at hG
      refine r_iload_n hG (hl0 := rfl) (hd := d_Ward_countedAsUsed_49) (K := ?_)
      refine r_aload_n hG (hl0 := rfl) (hd := d_Ward_countedAsUsed_50) (K := ?_)
      refine g_Ward_62 hG (hd := d_Ward_countedAsUsed_51) (K := ?_)
      refine g_Ward_263 hG (hd := d_Ward_countedAsUsed_54) (K := ?_)
      first | refine r_iadd hG (hd := d_Ward_countedAsUsed_57) (K := ?_) | refine r_iaddr hG (hd := d_Ward_countedAsUsed_57) (K := ?_)
      refine r_iret hG d_Ward_countedAsUsed_58 ⟨(Nat.le_of_ble_eq_true rfl), (Nat.le_of_ble_eq_true rfl)⟩ ?_
      exact ⟨rfl, rfl⟩
    · rw [if_pos (show r = 1 by omega)] at hG
      refine r_iload_n hG (hl0 := rfl) (hd := d_Ward_countedAsUsed_45) (K := ?_)
      refine r_goto hG (hd := d_Ward_countedAsUsed_46) (K := ?_)
      refine r_iret hG d_Ward_countedAsUsed_58 ⟨(Nat.le_of_ble_eq_true rfl), (Nat.le_of_ble_eq_true rfl)⟩ ?_
      exact ⟨rfl, rfl⟩
  · rw [if_pos (show r = 0 by omega)] at hG
    refine r_bipush hG (hd := d_Ward_countedAsUsed_4) (K := ?_)
    refine r_aload_n hG (hl0 := rfl) (hd := d_Ward_countedAsUsed_6) (K := ?_)
    refine g_Ward_55 hG (hd := d_Ward_countedAsUsed_7) (K := ?_)
    refine r_iconst hG (hd := d_Ward_countedAsUsed_10) (K := ?_)
    refine cVx hG w_Ward_241 d_Ward_countedAsUsed_11 (ct_countIn hb hb20 (by omega) h57) (by decide) (by decide) rc_9 rfl rfl ⟨(Nat.le_of_ble_eq_true rfl), (Nat.le_of_ble_eq_true rfl)⟩ ⟨(Nat.le_of_ble_eq_true rfl), (Nat.le_of_ble_eq_true rfl)⟩ (Nat.le_of_ble_eq_true rfl) ?_
    refine r_imul hG (hd := d_Ward_countedAsUsed_14) (K := ?_)
    refine r_aload_n hG (hl0 := rfl) (hd := d_Ward_countedAsUsed_15) (K := ?_)
    refine g_Ward_69 hG (hd := d_Ward_countedAsUsed_16) (K := ?_)
    refine g_Ward_410 hG (hd := d_Ward_countedAsUsed_19) (K := ?_)
    first | refine r_iadd hG (hd := d_Ward_countedAsUsed_22) (K := ?_) | refine r_iaddr hG (hd := d_Ward_countedAsUsed_22) (K := ?_)
    refine r_iret hG d_Ward_countedAsUsed_23 ⟨(Nat.le_of_ble_eq_true rfl), (Nat.le_of_ble_eq_true rfl)⟩ ?_
    exact ⟨rfl, rfl⟩
def raF (S : St) (r : Nat) : Int := if fetN S (S 1 0 0).toNat ≤ 0 then 0 else 100 * usedF S r / fetN S (S 1 0 0).toNat
theorem ct_rate {Γ : Gm} {S : St} {nl nb r : Nat} (hl : S 1 0 0 = (nl : Int)) (hl3 : nl ≤ 3) (hb : S 52 0 0 = (nb : Int)) (hb20 : nb ≤ 20) (h57 : ∀ b, b < 20 → 0 ≤ S 57 b 0 ∧ S 57 b 0 ≤ 3) (hr : r < 3) (hf : 0 ≤ fetN S nl ∧ fetN S nl < 10000000) (hu : 0 ≤ usedF S r ∧ usedF S r < 10000000) : CT Γ y_Ward_rate b_Ward_rate 3 ((some FieldType.int)) (rmx 3 0 0) [rf Γ 0 0, nt r] S (dX (some (nt (raF S r))) S) := by
  unfold raF
  rw [hl, Int.toNat_natCast]
  refine CT.of (by first | exact plainFor_of_name (by rfl) | decide +kernel) (Nat.le_of_ble_eq_true rfl) ?_
  intro G hG
  show G (0, 0) 0 [(0, rf Γ 0 0), (1, nt r)] [] _
  refine r_iload_n hG (hl0 := rfl) (hd := d_Ward_rate_0) (K := ?_)
  refine r_iconst hG (hd := d_Ward_rate_1) (K := ?_)
  refine r_iconst hG (hd := d_Ward_rate_2) (K := ?_)
  refine cSv hG w_Ward_82 d_Ward_rate_3 (ct_ckV (by omega) (by omega)) rfl rfl ⟨(Nat.le_of_ble_eq_true rfl), (Nat.le_of_ble_eq_true rfl)⟩ ⟨(Nat.le_of_ble_eq_true rfl), (Nat.le_of_ble_eq_true rfl)⟩ (Nat.le_of_ble_eq_true rfl) ?_
  refine r_aload_n hG (hl0 := rfl) (hd := d_Ward_rate_6) (K := ?_)
  refine cVx hG w_Ward_272 d_Ward_rate_7 (ct_fetchedEver hl hl3) (by decide) (by decide) rc_0 rfl rfl ⟨(Nat.le_of_ble_eq_true rfl), (Nat.le_of_ble_eq_true rfl)⟩ ⟨(Nat.le_of_ble_eq_true rfl), (Nat.le_of_ble_eq_true rfl)⟩ (Nat.le_of_ble_eq_true rfl) ?_
  refine r_istore_n hG (hd := d_Ward_rate_10) (K := ?_)
  refine r_iload_n hG (hl0 := rfl) (hd := d_Ward_rate_11) (K := ?_)
  refine r_if_gt hG (hd := d_Ward_rate_12) (kt := fun h => ?_) (kf := fun h => ?_)
  · rw [if_neg (by omega)] at hG
    refine r_bipush hG (hd := d_Ward_rate_17) (K := ?_)
    refine r_aload_n hG (hl0 := rfl) (hd := d_Ward_rate_19) (K := ?_)
    refine r_iload_n hG (hl0 := rfl) (hd := d_Ward_rate_20) (K := ?_)
    refine cVx hG w_Ward_279 d_Ward_rate_21 (ct_used hb hb20 h57 hr) (by decide) (by decide) rc_0 rfl rfl ⟨(Nat.le_of_ble_eq_true rfl), (Nat.le_of_ble_eq_true rfl)⟩ ⟨(Nat.le_of_ble_eq_true rfl), (Nat.le_of_ble_eq_true rfl)⟩ (Nat.le_of_ble_eq_true rfl) ?_
    refine r_imul hG (hd := d_Ward_rate_24) (K := ?_)
    refine r_iload_n hG (hl0 := rfl) (hd := d_Ward_rate_25) (K := ?_)
    refine r_idiv hG (hr0 := by first | omega | (simp [sU]; omega)) (hd := d_Ward_rate_26) (K := ?_)
    refine r_iret hG d_Ward_rate_27 ⟨(Nat.le_of_ble_eq_true rfl), (Nat.le_of_ble_eq_true rfl)⟩ ?_
    exact ⟨rfl, rfl⟩
  · rw [if_pos (by omega)] at hG
    refine r_iconst hG (hd := d_Ward_rate_15) (K := ?_)
    refine r_iret hG d_Ward_rate_16 ⟨(Nat.le_of_ble_eq_true rfl), (Nat.le_of_ble_eq_true rfl)⟩ ?_
    exact ⟨rfl, rfl⟩
def fuF (S : St) (t j : Nat) : Int :=
  if 60 - (S 16 t j + S 17 t j) ≤ 0 then 0 else if S 15 t j ≤ 0 then -1 else if rupF (60 - (S 16 t j + S 17 t j)) (S 15 t j) ≤ 99 then rupF (60 - (S 16 t j + S 17 t j)) (S 15 t j) else -1
theorem rup_in {a b : Int} (ha : 0 ≤ a ∧ a ≤ 60) (hb : 0 < b) : 0 ≤ rupF a b ∧ rupF a b ≤ a := by
  unfold rupF
  refine ⟨Int.ediv_nonneg (by omega) (by omega), ?_⟩
  have h := Int.ediv_mul_le (a + b - 1) (show b ≠ 0 by omega)
  generalize (a + b - 1) / b = q at h ⊢
  rcases Int.lt_or_le a q with h1 | h1
  · have h2 := Int.mul_le_mul_of_nonneg_right (show a + 1 ≤ q by omega) (show 0 ≤ b by omega)
    have h3 := Int.mul_le_mul_of_nonneg_left (show 1 ≤ b by omega) ha.1
    rw [Int.add_mul] at h2
    omega
  · exact h1
theorem ct_fullIn {Γ : Gm} {S : St} {n k j : Nat} (hn : S 0 0 0 = (n : Int)) (hn6 : n ≤ 6) (hk : k < n) (hj : j < 3) (hT : okT S (2 * k)) : CT Γ y_Ward_fullIn b_Ward_fullIn 7 ((some FieldType.int)) (rmx 3 0 0) [rf Γ 0 0, nt k, nt j] S (dX (some (nt (fuF S (2 * k) j))) S) := by
  have hb := hT.2.2 j hj
  unfold fuF
  refine CT.of (by first | exact plainFor_of_name (by rfl) | decide +kernel) (Nat.le_of_ble_eq_true rfl) ?_
  intro G hG
  show G (0, 0) 0 [(0, rf Γ 0 0), (1, nt k), (2, nt j)] [] _
  refine r_aload_n hG (hl0 := rfl) (hd := d_Ward_fullIn_0) (K := ?_)
  refine r_iload_n hG (hl0 := rfl) (hd := d_Ward_fullIn_1) (K := ?_)
  refine cVx hG w_Ward_103 d_Ward_fullIn_2 (ct_streetAt hn hn6 hk) (by decide) (by decide) rc_0 rfl rfl ⟨(Nat.le_of_ble_eq_true rfl), (Nat.le_of_ble_eq_true rfl)⟩ ⟨(Nat.le_of_ble_eq_true rfl), (Nat.le_of_ble_eq_true rfl)⟩ (Nat.le_of_ble_eq_true rfl) ?_
  refine r_astore_n hG (hd := d_Ward_fullIn_5) (K := ?_)
  refine r_iload_n hG (hl0 := rfl) (hd := d_Ward_fullIn_6) (K := ?_)
  refine r_iconst hG (hd := d_Ward_fullIn_7) (K := ?_)
  refine cSv hG w_Ward_107 d_Ward_fullIn_8 (ct_ckI (by omega) (by omega)) rfl rfl ⟨(Nat.le_of_ble_eq_true rfl), (Nat.le_of_ble_eq_true rfl)⟩ ⟨(Nat.le_of_ble_eq_true rfl), (Nat.le_of_ble_eq_true rfl)⟩ (Nat.le_of_ble_eq_true rfl) ?_
  refine r_aload_n hG (hl0 := rfl) (hd := d_Ward_fullIn_11) (K := ?_)
  refine r_iload_n hG (hl0 := rfl) (hd := d_Ward_fullIn_12) (K := ?_)
  refine cVx hG w_Ward_285 d_Ward_fullIn_13 (ct_roomIn (by omega) hj) (by decide) (by show _ < 12; omega) rc_15 rfl rfl ⟨(Nat.le_of_ble_eq_true rfl), (Nat.le_of_ble_eq_true rfl)⟩ ⟨(Nat.le_of_ble_eq_true rfl), (Nat.le_of_ble_eq_true rfl)⟩ (Nat.le_of_ble_eq_true rfl) ?_
  refine r_istore hG (hd := d_Ward_fullIn_16) (K := ?_)
  refine r_iload hG (hl0 := rfl) (hd := d_Ward_fullIn_18) (K := ?_)
  refine r_if_gt hG (hd := d_Ward_fullIn_20) (kt := fun h => ?_) (kf := fun h => ?_)
  · rw [if_neg (by omega)] at hG
    refine r_aload_n hG (hl0 := rfl) (hd := d_Ward_fullIn_25) (K := ?_)
    refine g_Ward_111 hG (hi := by omega) (hd := d_Ward_fullIn_26) (K := ?_)
    refine r_iload_n hG (hl0 := rfl) (hd := d_Ward_fullIn_29) (K := ?_)
    first | refine a_16 hG (hd := d_Ward_fullIn_30) (hz := rfl) (hj := by omega) (hi := by omega) (K := ?_) | refine a_17 hG (hd := d_Ward_fullIn_30) (hz := rfl) (hj := by omega) (hi := by omega) (K := ?_) | refine a_18 hG (hd := d_Ward_fullIn_30) (hz := rfl) (hj := by omega) (hi := by omega) (K := ?_) | refine a_19 hG (hd := d_Ward_fullIn_30) (hz := rfl) (hj := by omega) (hi := by omega) (K := ?_) | refine a_4 hG (hd := d_Ward_fullIn_30) (hz := rfl) (hj := by omega) (hi := by omega) (K := ?_) | refine a_5 hG (hd := d_Ward_fullIn_30) (hz := rfl) (hj := by omega) (hi := by omega) (K := ?_) | refine a_21 hG (hd := d_Ward_fullIn_30) (hz := rfl) (hj := by omega) (hi := by omega) (K := ?_) | refine a_23 hG (hd := d_Ward_fullIn_30) (hz := rfl) (hj := by omega) (hi := by omega) (K := ?_) | refine a_24 hG (hd := d_Ward_fullIn_30) (hz := rfl) (hj := by omega) (hi := by omega) (K := ?_)
    refine r_istore hG (hd := d_Ward_fullIn_31) (K := ?_)
    refine r_iload hG (hl0 := rfl) (hd := d_Ward_fullIn_33) (K := ?_)
    refine r_if_gt hG (hd := d_Ward_fullIn_35) (kt := fun h1 => ?_) (kf := fun h1 => ?_)
    · rw [if_neg (by omega)] at hG
      have hr := rup_in (a := 60 - (S 16 (2 * k) j + S 17 (2 * k) j)) (by omega) (show 0 < S 15 (2 * k) j by omega)
      refine r_iload hG (hl0 := rfl) (hd := d_Ward_fullIn_40) (K := ?_)
      refine r_iload hG (hl0 := rfl) (hd := d_Ward_fullIn_42) (K := ?_)
      refine cSx hG w_Ward_288 d_Ward_fullIn_44 (ct_rup (by omega) (by omega)) rfl rfl ⟨(Nat.le_of_ble_eq_true rfl), (Nat.le_of_ble_eq_true rfl)⟩ ⟨(Nat.le_of_ble_eq_true rfl), (Nat.le_of_ble_eq_true rfl)⟩ (Nat.le_of_ble_eq_true rfl) ?_
      refine r_istore hG (hd := d_Ward_fullIn_47) (K := ?_)
      refine r_iload hG (hl0 := rfl) (hd := d_Ward_fullIn_49) (K := ?_)
      refine r_bipush hG (hd := d_Ward_fullIn_51) (K := ?_)
      refine r_icmp_gt hG (hd := d_Ward_fullIn_53) (kt := fun h2 => ?_) (kf := fun h2 => ?_)
      · rw [if_neg (by omega)] at hG
        refine r_iconst hG (hd := d_Ward_fullIn_61) (K := ?_)
        refine r_iret hG d_Ward_fullIn_62 ⟨(Nat.le_of_ble_eq_true rfl), (Nat.le_of_ble_eq_true rfl)⟩ ?_
        exact ⟨rfl, rfl⟩
      · rw [if_pos (by omega)] at hG
        refine r_iload hG (hl0 := rfl) (hd := d_Ward_fullIn_56) (K := ?_)
        refine r_goto hG (hd := d_Ward_fullIn_58) (K := ?_)
        refine r_iret hG d_Ward_fullIn_62 ⟨(Nat.le_of_ble_eq_true rfl), (Nat.le_of_ble_eq_true rfl)⟩ ?_
        exact ⟨rfl, rfl⟩
    · rw [if_pos (by omega)] at hG
      refine r_iconst hG (hd := d_Ward_fullIn_38) (K := ?_)
      refine r_iret hG d_Ward_fullIn_39 ⟨(Nat.le_of_ble_eq_true rfl), (Nat.le_of_ble_eq_true rfl)⟩ ?_
      exact ⟨rfl, rfl⟩
  · rw [if_pos (by omega)] at hG
    refine r_iconst hG (hd := d_Ward_fullIn_23) (K := ?_)
    refine r_iret hG d_Ward_fullIn_24 ⟨(Nat.le_of_ble_eq_true rfl), (Nat.le_of_ble_eq_true rfl)⟩ ?_
    exact ⟨rfl, rfl⟩
theorem ct_bestFetch {Γ : Gm} {S : St} {ns nl i : Nat} (hs : S 0 0 0 = (ns : Int)) (hs6 : ns ≤ 6) (hl : S 1 0 0 = (nl : Int)) (hl3 : nl ≤ 3) (hi : i < nl) (hT : ∀ t, t < 12 → okT S t) (hL : okL S i) : CT Γ y_Ward_bestFetch b_Ward_bestFetch 3 ((some FieldType.int)) (rmx 6 0 0) [rf Γ 0 0, nt i] S (dX (some (nt (runF S 0 i ns 40 0 0))) (runF S 0 i ns)) := by
  refine CT.of (by first | exact plainFor_of_name (by rfl) | decide +kernel) (Nat.le_of_ble_eq_true rfl) ?_
  intro G hG
  show G (0, 0) 0 [(0, rf Γ 0 0), (1, nt i)] [] _
  refine r_aload_n hG (hl0 := rfl) (hd := d_Ward_bestFetch_0) (K := ?_)
  refine r_iload_n hG (hl0 := rfl) (hd := d_Ward_bestFetch_1) (K := ?_)
  refine cVx hG w_Ward_126 d_Ward_bestFetch_2 (ct_lorryAt hl hl3 hi) (by decide) (by decide) rc_0 rfl rfl ⟨(Nat.le_of_ble_eq_true rfl), (Nat.le_of_ble_eq_true rfl)⟩ ⟨(Nat.le_of_ble_eq_true rfl), (Nat.le_of_ble_eq_true rfl)⟩ (Nat.le_of_ble_eq_true rfl) ?_
  refine r_astore_n hG (hd := d_Ward_bestFetch_5) (K := ?_)
  refine r_aload_n hG (hl0 := rfl) (hd := d_Ward_bestFetch_6) (K := ?_)
  refine g_Ward_34 hG (hd := d_Ward_bestFetch_7) (K := ?_)
  refine r_aload_n hG (hl0 := rfl) (hd := d_Ward_bestFetch_10) (K := ?_)
  refine r_aload_n hG (hl0 := rfl) (hd := d_Ward_bestFetch_11) (K := ?_)
  refine g_Ward_11 hG (hd := d_Ward_bestFetch_12) (K := ?_)
  refine r_aload_n hG (hl0 := rfl) (hd := d_Ward_bestFetch_15) (K := ?_)
  refine g_Ward_86 hG (hd := d_Ward_bestFetch_16) (K := ?_)
  rw [hs]
  refine cVv hG w_Ward_292 d_Ward_bestFetch_19 (ct_searchRun (by decide) (by omega) hs6 hT hL) (by decide) (by decide) rc_6 rfl rfl ⟨(Nat.le_of_ble_eq_true rfl), (Nat.le_of_ble_eq_true rfl)⟩ ⟨(Nat.le_of_ble_eq_true rfl), (Nat.le_of_ble_eq_true rfl)⟩ (Nat.le_of_ble_eq_true rfl) ?_
  refine r_aload_n hG (hl0 := rfl) (hd := d_Ward_bestFetch_22) (K := ?_)
  refine g_Ward_34 hG (hd := d_Ward_bestFetch_23) (K := ?_)
  refine g_Ward_296 hG (hd := d_Ward_bestFetch_26) (K := ?_)
  refine r_iret hG d_Ward_bestFetch_29 ⟨(Nat.le_of_ble_eq_true rfl), (Nat.le_of_ble_eq_true rfl)⟩ ?_
  exact ⟨rfl, rfl⟩
theorem ct_bestRound {Γ : Gm} {S : St} {ns nl i : Nat} (hs : S 0 0 0 = (ns : Int)) (hs6 : ns ≤ 6) (hl : S 1 0 0 = (nl : Int)) (hl3 : nl ≤ 3) (hi : i < nl) (hT : ∀ t, t < 12 → okT S t) (hL : okL S i) : CT Γ y_Ward_bestRound b_Ward_bestRound 3 ((some FieldType.int)) (rmx 6 0 0) [rf Γ 0 0, nt i] S (dX (some (nt (runF S 0 i ns 41 0 0))) (runF S 0 i ns)) := by
  refine CT.of (by first | exact plainFor_of_name (by rfl) | decide +kernel) (Nat.le_of_ble_eq_true rfl) ?_
  intro G hG
  show G (0, 0) 0 [(0, rf Γ 0 0), (1, nt i)] [] _
  refine r_aload_n hG (hl0 := rfl) (hd := d_Ward_bestRound_0) (K := ?_)
  refine r_iload_n hG (hl0 := rfl) (hd := d_Ward_bestRound_1) (K := ?_)
  refine cVx hG w_Ward_126 d_Ward_bestRound_2 (ct_lorryAt hl hl3 hi) (by decide) (by decide) rc_0 rfl rfl ⟨(Nat.le_of_ble_eq_true rfl), (Nat.le_of_ble_eq_true rfl)⟩ ⟨(Nat.le_of_ble_eq_true rfl), (Nat.le_of_ble_eq_true rfl)⟩ (Nat.le_of_ble_eq_true rfl) ?_
  refine r_astore_n hG (hd := d_Ward_bestRound_5) (K := ?_)
  refine r_aload_n hG (hl0 := rfl) (hd := d_Ward_bestRound_6) (K := ?_)
  refine g_Ward_34 hG (hd := d_Ward_bestRound_7) (K := ?_)
  refine r_aload_n hG (hl0 := rfl) (hd := d_Ward_bestRound_10) (K := ?_)
  refine r_aload_n hG (hl0 := rfl) (hd := d_Ward_bestRound_11) (K := ?_)
  refine g_Ward_11 hG (hd := d_Ward_bestRound_12) (K := ?_)
  refine r_aload_n hG (hl0 := rfl) (hd := d_Ward_bestRound_15) (K := ?_)
  refine g_Ward_86 hG (hd := d_Ward_bestRound_16) (K := ?_)
  rw [hs]
  refine cVv hG w_Ward_292 d_Ward_bestRound_19 (ct_searchRun (by decide) (by omega) hs6 hT hL) (by decide) (by decide) rc_6 rfl rfl ⟨(Nat.le_of_ble_eq_true rfl), (Nat.le_of_ble_eq_true rfl)⟩ ⟨(Nat.le_of_ble_eq_true rfl), (Nat.le_of_ble_eq_true rfl)⟩ (Nat.le_of_ble_eq_true rfl) ?_
  refine r_aload_n hG (hl0 := rfl) (hd := d_Ward_bestRound_22) (K := ?_)
  refine g_Ward_34 hG (hd := d_Ward_bestRound_23) (K := ?_)
  refine g_Ward_299 hG (hd := d_Ward_bestRound_26) (K := ?_)
  refine r_iret hG d_Ward_bestRound_29 ⟨(Nat.le_of_ble_eq_true rfl), (Nat.le_of_ble_eq_true rfl)⟩ ?_
  exact ⟨rfl, rfl⟩
end
section
/-! THE HALL: what is in it, and that nothing is lost -/
def balK (S : St) : Nat → Int
  | 0 => 0
  | k + 1 => balK S k + (S 55 k 0 + S 56 k 0)
def HM (S : St) : Int := balK S 20 + S 50 0 0 + S 51 0 0 + S 65 0 0 + S 66 0 0 + S 67 0 0 + S 68 0 0 + S 70 0 0 + S 72 0 0 + S 62 0 0 - S 63 0 0
def BL (S : St) : Prop := ∃ n : Nat, n ≤ 20 ∧ S 52 0 0 = (n : Int) ∧ (∀ b, b < 20 → 0 ≤ S 57 b 0 ∧ S 57 b 0 ≤ 3) ∧
  (∀ b, b < n → 0 ≤ S 55 b 0 ∧ 0 ≤ S 56 b 0 ∧ (S 57 b 0 = 3 → S 55 b 0 + S 56 b 0 = 0) ∧ (S 57 b 0 ≠ 3 → S 55 b 0 + S 56 b 0 = 40) ∧ 1 ≤ S 58 b 0 ∧ S 58 b 0 ≤ S 2 0 0) ∧
  ∀ b, n ≤ b → b < 20 → S 55 b 0 = 0 ∧ S 56 b 0 = 0 ∧ S 57 b 0 = 0
def HI (S : St) : Prop := BL S ∧ (0 ≤ S 50 0 0 ∧ 0 ≤ S 51 0 0) ∧ (0 ≤ S 65 0 0 ∧ 0 ≤ S 66 0 0 ∧ 0 ≤ S 67 0 0 ∧ 0 ≤ S 68 0 0 ∧ S 69 0 0 = S 65 0 0 + S 66 0 0 + S 67 0 0 + S 68 0 0) ∧ (0 ≤ S 71 0 0 ∧ S 71 0 0 ≤ S 70 0 0) ∧ 0 ≤ S 72 0 0 ∧ (0 ≤ S 63 0 0 ∧ 4 * S 63 0 0 ≤ S 62 0 0) ∧ S 64 0 0 = 3 * S 62 0 0
theorem balK_of {S S' : St} (h55 : S' 55 = S 55) (h56 : S' 56 = S 56) : ∀ k, balK S' k = balK S k
  | 0 => rfl
  | k + 1 => by simp only [balK]; rw [balK_of h55 h56 k, h55, h56]
theorem BL_of {S S' : St} (h : BL S) (h52 : S' 52 = S 52) (h55 : S' 55 = S 55) (h56 : S' 56 = S 56) (h57 : S' 57 = S 57) (h58 : S' 58 = S 58) (h2 : S' 2 = S 2) : BL S' := by
  unfold BL at *
  rw [h52, h55, h56, h57, h58, h2]
  exact h
theorem HI_of {S S' : St} (h : HI S) (he : ∀ f, 50 ≤ f → f ≤ 72 → f ≠ 60 → f ≠ 61 → S' f = S f) (h2 : S' 2 = S 2) : HI S' ∧ HM S' = HM S := by
  have e : ∀ f, 50 ≤ f → f ≤ 72 → f ≠ 60 → f ≠ 61 → S' f = S f := he
  refine ⟨⟨BL_of h.1 (e _ (by decide) (by decide) (by decide) (by decide)) (e _ (by decide) (by decide) (by decide) (by decide)) (e _ (by decide) (by decide) (by decide) (by decide)) (e _ (by decide) (by decide) (by decide) (by decide)) (e _ (by decide) (by decide) (by decide) (by decide)) h2, ?_⟩, ?_⟩
  · rw [e 50 (by decide) (by decide) (by decide) (by decide), e 51 (by decide) (by decide) (by decide) (by decide), e 65 (by decide) (by decide) (by decide) (by decide), e 66 (by decide) (by decide) (by decide) (by decide), e 67 (by decide) (by decide) (by decide) (by decide), e 68 (by decide) (by decide) (by decide) (by decide), e 69 (by decide) (by decide) (by decide) (by decide), e 70 (by decide) (by decide) (by decide) (by decide), e 71 (by decide) (by decide) (by decide) (by decide), e 72 (by decide) (by decide) (by decide) (by decide), e 62 (by decide) (by decide) (by decide) (by decide), e 63 (by decide) (by decide) (by decide) (by decide), e 64 (by decide) (by decide) (by decide) (by decide)]
    exact h.2
  · unfold HM
    rw [balK_of (e 55 (by decide) (by decide) (by decide) (by decide)) (e 56 (by decide) (by decide) (by decide) (by decide)), e 50 (by decide) (by decide) (by decide) (by decide), e 51 (by decide) (by decide) (by decide) (by decide), e 65 (by decide) (by decide) (by decide) (by decide), e 66 (by decide) (by decide) (by decide) (by decide), e 67 (by decide) (by decide) (by decide) (by decide), e 68 (by decide) (by decide) (by decide) (by decide), e 70 (by decide) (by decide) (by decide) (by decide), e 72 (by decide) (by decide) (by decide) (by decide), e 62 (by decide) (by decide) (by decide) (by decide), e 63 (by decide) (by decide) (by decide) (by decide)]
theorem balK_nn {S : St} (h : ∀ b, b < 20 → 0 ≤ S 55 b 0 ∧ 0 ≤ S 56 b 0) : ∀ k, k ≤ 20 → 0 ≤ balK S k
  | 0, _ => Int.le_refl _
  | k + 1, hk => by
    have := balK_nn h k (by omega)
    have := h k (by omega)
    simp only [balK]
    omega
theorem BL_nn {S : St} (h : BL S) : ∀ b, b < 20 → 0 ≤ S 55 b 0 ∧ 0 ≤ S 56 b 0 := by
  obtain ⟨n, hn, -, -, h1, h2⟩ := h
  intro b hb
  rcases Nat.lt_or_ge b n with q | q
  · exact ⟨(h1 b q).1, (h1 b q).2.1⟩
  · have := h2 b q hb
    omega
/-- each part is no more than all -/
theorem HI_le {S : St} (h : HI S) : 0 ≤ balK S 20 ∧ S 50 0 0 + S 51 0 0 ≤ HM S ∧ S 65 0 0 ≤ HM S ∧ S 69 0 0 ≤ HM S ∧ S 70 0 0 ≤ HM S ∧ 0 ≤ HM S ∧ S 63 0 0 ≤ HM S ∧ S 67 0 0 ≤ HM S := by
  have hb := balK_nn (BL_nn h.1) 20 (by decide)
  obtain ⟨-, h1, h2, h3, h4, h5, h6⟩ := h
  unfold HM
  omega
theorem pitIn_of (S : St) (a b : Int) {f : Nat} (h : f ≠ 70 ∧ f ≠ 71 ∧ f ≠ 73) : pitIn S a b f = S f := by
  unfold pitIn
  rw [sU_f h.2.2, sU_f h.2.1, sU_f h.1]
theorem pitIn_HI {S : St} {a b : Int} (h : HI S) (ha : 0 ≤ a) (hb : 0 ≤ b ∧ b ≤ a) : HI (pitIn S a b) ∧ HM (pitIn S a b) = HM S + a := by
  have e : ∀ {f : Nat}, f ≠ 70 ∧ f ≠ 71 ∧ f ≠ 73 → pitIn S a b f = S f := fun h => pitIn_of S a b h
  refine ⟨⟨BL_of h.1 (e (by decide)) (e (by decide)) (e (by decide)) (e (by decide)) (e (by decide)) (e (by decide)), ?_⟩, ?_⟩
  · obtain ⟨-, h1, h2, h3, h4, h5, h6⟩ := h
    simp only [pitIn, sU]
    simp
    omega
  · unfold HM
    rw [balK_of (e (by decide)) (e (by decide))]
    simp only [pitIn, sU]
    simp
    omega
theorem burn1_of (S : St) (x : Int) {f : Nat} (h : f ≠ 61 ∧ f ≠ 62 ∧ f ≠ 63 ∧ f ≠ 64) : burn1 S x f = S f := by
  unfold burn1
  rw [sU_f h.2.2.1, sU_f h.2.2.2, sU_f h.2.1, sU_f h.1]
theorem burn1_HI {S : St} {x : Int} (h : HI S) (hx : 0 ≤ x) : HI (burn1 S x) ∧ HM (burn1 S x) = HM S + (x - x / 4) := by
  have e : ∀ {f : Nat}, f ≠ 61 ∧ f ≠ 62 ∧ f ≠ 63 ∧ f ≠ 64 → burn1 S x f = S f := fun h => burn1_of S x h
  refine ⟨⟨BL_of h.1 (e (by decide)) (e (by decide)) (e (by decide)) (e (by decide)) (e (by decide)) (e (by decide)), ?_⟩, ?_⟩
  · obtain ⟨-, h1, h2, h3, h4, h5, h6⟩ := h
    simp only [burn1, sU]
    simp
    omega
  · unfold HM
    rw [balK_of (e (by decide)) (e (by decide))]
    simp only [burn1, sU]
    simp
    omega
theorem burnF_of (S : St) (a : Int) {f : Nat} (h : f ≠ 61 ∧ f ≠ 62 ∧ f ≠ 63 ∧ f ≠ 64) (h2 : f ≠ 70 ∧ f ≠ 71 ∧ f ≠ 73) : burnF S a f = S f := by
  unfold burnF
  rw [pitIn_of _ _ _ h2, pitIn_of _ _ _ h2, burn1_of _ _ h]
theorem burnF_61 (S : St) (a : Int) : burnF S a 61 0 0 = S 61 0 0 - min a (S 61 0 0) := by
  unfold burnF
  rw [pitIn_of _ _ _ (by decide), pitIn_of _ _ _ (by decide)]
  simp [burn1, sU]
theorem burnF_HI {S : St} {a : Int} (h : HI S) (ha : 0 ≤ a) (hl : 0 ≤ S 61 0 0) : HI (burnF S a) ∧ HM (burnF S a) = HM S + a := by
  obtain ⟨h1, e1⟩ := burn1_HI (x := min a (S 61 0 0)) h (by omega)
  obtain ⟨h2, e2⟩ := pitIn_HI (a := min a (S 61 0 0) / 4) (b := 0) h1 (by omega) (by omega)
  obtain ⟨h3, e3⟩ := pitIn_HI (a := a - min a (S 61 0 0)) (b := (a - min a (S 61 0 0)) / 2) h2 (by omega) (by omega)
  refine ⟨h3, ?_⟩
  unfold burnF
  rw [e3, e2, e1]
  omega
theorem lineF_of (S : St) (c d : Int) {f : Nat} (h : f ≠ 47 ∧ f ≠ 50 ∧ f ≠ 51) : lineF S c d f = S f := by
  unfold lineF
  rw [sU_f h.2.2, sU_f h.2.1, sU_f h.1]
theorem line_in {S : St} {c d : Int} (hc : 0 ≤ c) (hd : 0 ≤ d ∧ d ≤ 1000) (he : 0 ≤ S 45 0 0 ∧ S 45 0 0 ≤ 100) (hh : 0 ≤ S 47 0 0) : 0 ≤ lineR S c d ∧ lineR S c d ≤ c + d ∧ 0 ≤ d - outF S d - handF S d ∧ 0 ≤ handF S d ∧ handF S d ≤ S 47 0 0 := by
  have h := outF_in hd he
  unfold lineR handF
  omega
theorem lineF_HI {S : St} {c d : Int} (h : HI S) (hc : 0 ≤ c) (hd : 0 ≤ d ∧ d ≤ 1000) (he : 0 ≤ S 45 0 0 ∧ S 45 0 0 ≤ 100) (hh : 0 ≤ S 47 0 0) : HI (lineF S c d) ∧ HM (lineF S c d) = HM S + (c + d - lineR S c d) := by
  have e : ∀ {f : Nat}, f ≠ 47 ∧ f ≠ 50 ∧ f ≠ 51 → lineF S c d f = S f := fun h => lineF_of S c d h
  have hi := line_in hc hd he hh
  have h50 : lineF S c d 50 0 0 = S 50 0 0 + (c - c * 5 / 100) := by simp [lineF, sU]
  have h51 : lineF S c d 51 0 0 = S 51 0 0 + (d - outF S d - handF S d) := by simp [lineF, sU]
  refine ⟨⟨BL_of h.1 (e (by decide)) (e (by decide)) (e (by decide)) (e (by decide)) (e (by decide)) (e (by decide)), ?_⟩, ?_⟩
  · obtain ⟨-, h1, h2, h3, h4, h5, h6⟩ := h
    rw [h50, h51, e (by decide), e (by decide), e (by decide), e (by decide), e (by decide), e (by decide), e (by decide), e (by decide), e (by decide), e (by decide), e (by decide)]
    refine ⟨by omega, h2, h3, h4, h5, h6⟩
  · unfold HM
    rw [balK_of (e (by decide)) (e (by decide)), h50, h51, e (by decide), e (by decide), e (by decide), e (by decide), e (by decide), e (by decide), e (by decide), e (by decide)]
    unfold lineR
    omega
theorem balK_upd {S S' : St} {b : Nat} (h55 : ∀ q, q ≠ b → S' 55 q 0 = S 55 q 0) (h56 : ∀ q, q ≠ b → S' 56 q 0 = S 56 q 0) : ∀ k, balK S' k = balK S k + (if b < k then S' 55 b 0 + S' 56 b 0 - (S 55 b 0 + S 56 b 0) else 0)
  | 0 => by simp [balK]
  | k + 1 => by
    simp only [balK]
    rw [balK_upd h55 h56 k]
    rcases Nat.lt_trichotomy b k with h | h | h
    · rw [if_pos h, if_pos (by omega), h55 k (by omega), h56 k (by omega)]
      omega
    · subst h
      rw [if_neg (by omega), if_pos (by omega)]
      omega
    · rw [if_neg (by omega), if_neg (by omega), h55 k (by omega), h56 k (by omega)]
      omega
theorem prs_of (S : St) (b : Nat) (day : Int) {f : Nat} (h : f ≠ 50 ∧ f ≠ 51 ∧ f ≠ 52 ∧ f ≠ 55 ∧ f ≠ 56 ∧ f ≠ 58) : prs S b day f = S f := by
  simp only [prs]
  rw [sU_f h.2.2.1, sU_f h.1, sU_f h.2.1, sU_f h.2.2.2.2.2, sU_f h.2.2.2.1, sU_f h.2.2.2.2.1]
theorem prs_55 (S : St) (b : Nat) (day : Int) (q : Nat) : prs S b day 55 q 0 = if q = b then 40 - S 51 0 0 * 40 / (S 50 0 0 + S 51 0 0) else S 55 q 0 := by simp [prs, sU]
theorem prs_56 (S : St) (b : Nat) (day : Int) (q : Nat) : prs S b day 56 q 0 = if q = b then S 51 0 0 * 40 / (S 50 0 0 + S 51 0 0) else S 56 q 0 := by simp [prs, sU]
theorem prs_58 (S : St) (b : Nat) (day : Int) (q : Nat) : prs S b day 58 q 0 = if q = b then day else S 58 q 0 := by simp [prs, sU]
theorem prs_HI {S : St} {b : Nat} {day : Int} (h : HI S) (hb : S 52 0 0 = (b : Int)) (hb20 : b < 20) (hday : day = S 2 0 0 ∧ 1 ≤ day) (hk : 40 ≤ S 50 0 0 + S 51 0 0) : HI (prs S b day) ∧ HM (prs S b day) = HM S := by
  obtain ⟨⟨n, hn20, hn, g1, g2, g3⟩, h1, h2, h3, h4, h5, h6⟩ := h
  have hnb : n = b := by omega
  subst hnb
  have hd := bale_in h1.1 h1.2 hk
  have e : ∀ {f : Nat}, f ≠ 50 ∧ f ≠ 51 ∧ f ≠ 52 ∧ f ≠ 55 ∧ f ≠ 56 ∧ f ≠ 58 → prs S n day f = S f := fun h => prs_of S n day h
  have z := g3 n (Nat.le_refl _) hb20
  refine ⟨⟨⟨n + 1, by omega, by rw [prs_52, hn]; rfl, ?_, ?_, ?_⟩, ?_⟩, ?_⟩
  · rw [e (by decide)]; exact g1
  · intro b hb
    rw [prs_55, prs_56, prs_58, e (by decide), e (by decide)]
    by_cases hbn : b = n
    · subst hbn
      rw [if_pos rfl, if_pos rfl, if_pos rfl]
      omega
    · rw [if_neg hbn, if_neg hbn, if_neg hbn]
      exact g2 b (by omega)
  · intro b hb hb2
    rw [prs_55, prs_56, e (by decide), if_neg (by omega), if_neg (by omega)]
    exact g3 b (by omega) hb2
  · rw [prs_50, prs_51, e (by decide), e (by decide), e (by decide), e (by decide), e (by decide), e (by decide), e (by decide), e (by decide), e (by decide), e (by decide), e (by decide)]
    exact ⟨by omega, h2, h3, h4, h5, h6⟩
  · unfold HM
    rw [balK_upd (S := S) (S' := prs S n day) (b := n) (fun q hq => by rw [prs_55, if_neg hq]) (fun q hq => by rw [prs_56, if_neg hq]), if_pos hb20, prs_55, prs_56, if_pos rfl, if_pos rfl, prs_50, prs_51, e (by decide), e (by decide), e (by decide), e (by decide), e (by decide), e (by decide), e (by decide), e (by decide)]
    omega
theorem prsN_HI {day : Int} : ∀ (m b : Nat) (S : St), b + m = 20 → HI S → S 52 0 0 = (b : Int) → (day = S 2 0 0 ∧ 1 ≤ day) → HI (prsN day m b S) ∧ HM (prsN day m b S) = HM S
  | 0, _, S, _, h, _, _ => ⟨h, rfl⟩
  | m + 1, b, S, hb, h, h52, hday => by
    simp only [prsN]
    split
    · next hk =>
      obtain ⟨h1, e1⟩ := prs_HI h h52 (by omega) hday hk
      obtain ⟨h2, e2⟩ := prsN_HI m (b + 1) (prs S b day) (by omega) h1 (by rw [prs_52, h52]; rfl) (by rw [prs_of S b day (by decide)]; exact hday)
      exact ⟨h2, e2.trans e1⟩
    · exact ⟨h, rfl⟩
theorem prsN_of (day : Int) {f : Nat} (hf : f ≠ 50 ∧ f ≠ 51 ∧ f ≠ 52 ∧ f ≠ 55 ∧ f ≠ 56 ∧ f ≠ 58) : ∀ (m b : Nat) (S : St), prsN day m b S f = S f
  | 0, _, _ => rfl
  | m + 1, b, S => by
    simp only [prsN]
    split
    · rw [prsN_of day hf m (b + 1), prs_of S b day hf]
    · rfl
end
