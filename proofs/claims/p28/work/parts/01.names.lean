-- ===== PART A: goes FIRST, ahead of the names: the tables' words, and 'selects' of the private methods out of them =====
/-- a private method of a class that the tables say can be made, by its rows of tables_1 -/
def lw_okq (q : MethodName × Nat) : Prop := (q.1.cls ≠ "java/lang/invoke/MethodHandle" ∧ q.1.cls ≠ "java/lang/invoke/VarHandle") ∧ Cond.instantiable q.1.cls q.2 ∈ tables_1 ∧ Cond.privateMethod q.1 ∈ tables_1 ∧ Cond.instanceMethod q.1 ∈ tables_1
theorem lw_p0 : lw_okq (⟨"java/lang/Throwable", "fillInStackTrace", "(I)Ljava/lang/Throwable;"⟩, 6) := ⟨⟨by decide +kernel, by decide +kernel⟩, List.mem_of_getElem? (i := 428) (by decide +kernel), List.mem_of_getElem? (i := 426) (by decide +kernel), List.mem_of_getElem? (i := 427) (by decide +kernel)⟩
theorem lw_p1 : lw_okq (⟨"BinWard", "streetAt", "(I)LBinWard$Street;"⟩, 15) := ⟨⟨by decide +kernel, by decide +kernel⟩, List.mem_of_getElem? (i := 24) (by decide +kernel), List.mem_of_getElem? (i := 478) (by decide +kernel), List.mem_of_getElem? (i := 479) (by decide +kernel)⟩
theorem lw_p2 : lw_okq (⟨"BinWard", "lorryAt", "(I)LBinWard$Lorry;"⟩, 15) := ⟨⟨by decide +kernel, by decide +kernel⟩, List.mem_of_getElem? (i := 24) (by decide +kernel), List.mem_of_getElem? (i := 514) (by decide +kernel), List.mem_of_getElem? (i := 515) (by decide +kernel)⟩
theorem lw_p3 : lw_okq (⟨"BinWard", "baleAt", "(I)LBinWard$Bale;"⟩, 15) := ⟨⟨by decide +kernel, by decide +kernel⟩, List.mem_of_getElem? (i := 24) (by decide +kernel), List.mem_of_getElem? (i := 547) (by decide +kernel), List.mem_of_getElem? (i := 548) (by decide +kernel)⟩
theorem lw_p4 : lw_okq (⟨"BinWard", "fetchedEver", "()I"⟩, 15) := ⟨⟨by decide +kernel, by decide +kernel⟩, List.mem_of_getElem? (i := 24) (by decide +kernel), List.mem_of_getElem? (i := 593) (by decide +kernel), List.mem_of_getElem? (i := 594) (by decide +kernel)⟩
theorem lw_p5 : lw_okq (⟨"BinWard", "litterIn", "([LBinWard$Street;)I"⟩, 15) := ⟨⟨by decide +kernel, by decide +kernel⟩, List.mem_of_getElem? (i := 24) (by decide +kernel), List.mem_of_getElem? (i := 597) (by decide +kernel), List.mem_of_getElem? (i := 598) (by decide +kernel)⟩
theorem lw_p6 : lw_okq (⟨"BinWard$Search", "compare", "(III)V"⟩, 3) := ⟨⟨by decide +kernel, by decide +kernel⟩, List.mem_of_getElem? (i := 70) (by decide +kernel), List.mem_of_getElem? (i := 651) (by decide +kernel), List.mem_of_getElem? (i := 652) (by decide +kernel)⟩
theorem lw_p7 : lw_okq (⟨"BinWard", "fillBins", "([LBinWard$Street;)V"⟩, 15) := ⟨⟨by decide +kernel, by decide +kernel⟩, List.mem_of_getElem? (i := 24) (by decide +kernel), List.mem_of_getElem? (i := 663) (by decide +kernel), List.mem_of_getElem? (i := 664) (by decide +kernel)⟩
theorem lw_p8 : lw_okq (⟨"BinWard$Trip", "begin", "()V"⟩, 6) := ⟨⟨by decide +kernel, by decide +kernel⟩, List.mem_of_getElem? (i := 36) (by decide +kernel), List.mem_of_getElem? (i := 684) (by decide +kernel), List.mem_of_getElem? (i := 685) (by decide +kernel)⟩
theorem lw_p9 : lw_okq (⟨"BinWard$Trip", "empty", "(LBinWard$Street;LBinWard$Lorry;)V"⟩, 6) := ⟨⟨by decide +kernel, by decide +kernel⟩, List.mem_of_getElem? (i := 36) (by decide +kernel), List.mem_of_getElem? (i := 689) (by decide +kernel), List.mem_of_getElem? (i := 690) (by decide +kernel)⟩
theorem lw_p10 : lw_okq (⟨"BinWard$Trip", "load", "(LBinWard$Street;II)V"⟩, 6) := ⟨⟨by decide +kernel, by decide +kernel⟩, List.mem_of_getElem? (i := 36) (by decide +kernel), List.mem_of_getElem? (i := 693) (by decide +kernel), List.mem_of_getElem? (i := 694) (by decide +kernel)⟩
theorem lw_p11 : lw_okq (⟨"BinWard", "countedAsUsed", "(I)I"⟩, 15) := ⟨⟨by decide +kernel, by decide +kernel⟩, List.mem_of_getElem? (i := 24) (by decide +kernel), List.mem_of_getElem? (i := 710) (by decide +kernel), List.mem_of_getElem? (i := 711) (by decide +kernel)⟩
theorem lw_p12 : lw_okq (⟨"BinWard", "digestOfStreet", "(JI)J"⟩, 15) := ⟨⟨by decide +kernel, by decide +kernel⟩, List.mem_of_getElem? (i := 24) (by decide +kernel), List.mem_of_getElem? (i := 718) (by decide +kernel), List.mem_of_getElem? (i := 719) (by decide +kernel)⟩
theorem lw_p13 : lw_okq (⟨"BinWard", "digestOfLorry", "(JI)J"⟩, 15) := ⟨⟨by decide +kernel, by decide +kernel⟩, List.mem_of_getElem? (i := 24) (by decide +kernel), List.mem_of_getElem? (i := 731) (by decide +kernel), List.mem_of_getElem? (i := 732) (by decide +kernel)⟩
theorem lw_p14 : lw_okq (⟨"BinWard", "liveOneDay", "()I"⟩, 15) := ⟨⟨by decide +kernel, by decide +kernel⟩, List.mem_of_getElem? (i := 24) (by decide +kernel), List.mem_of_getElem? (i := 760) (by decide +kernel), List.mem_of_getElem? (i := 761) (by decide +kernel)⟩
theorem lw_p15 : lw_okq (⟨"BinWard", "driveRounds", "()I"⟩, 15) := ⟨⟨by decide +kernel, by decide +kernel⟩, List.mem_of_getElem? (i := 24) (by decide +kernel), List.mem_of_getElem? (i := 782) (by decide +kernel), List.mem_of_getElem? (i := 783) (by decide +kernel)⟩
def lw_privs_1 : List (MethodName × Nat) := [(⟨"java/lang/Throwable", "fillInStackTrace", "(I)Ljava/lang/Throwable;"⟩, 6), (⟨"BinWard", "streetAt", "(I)LBinWard$Street;"⟩, 15), (⟨"BinWard", "lorryAt", "(I)LBinWard$Lorry;"⟩, 15), (⟨"BinWard", "baleAt", "(I)LBinWard$Bale;"⟩, 15), (⟨"BinWard", "fetchedEver", "()I"⟩, 15), (⟨"BinWard", "litterIn", "([LBinWard$Street;)I"⟩, 15), (⟨"BinWard$Search", "compare", "(III)V"⟩, 3), (⟨"BinWard", "fillBins", "([LBinWard$Street;)V"⟩, 15), (⟨"BinWard$Trip", "begin", "()V"⟩, 6), (⟨"BinWard$Trip", "empty", "(LBinWard$Street;LBinWard$Lorry;)V"⟩, 6), (⟨"BinWard$Trip", "load", "(LBinWard$Street;II)V"⟩, 6), (⟨"BinWard", "countedAsUsed", "(I)I"⟩, 15), (⟨"BinWard", "digestOfStreet", "(JI)J"⟩, 15), (⟨"BinWard", "digestOfLorry", "(JI)J"⟩, 15), (⟨"BinWard", "liveOneDay", "()I"⟩, 15), (⟨"BinWard", "driveRounds", "()I"⟩, 15)]
theorem lw_r1 : ∀ q ∈ lw_privs_1, lw_okq q := List.forall_mem_cons.mpr ⟨lw_p0, List.forall_mem_cons.mpr ⟨lw_p1, List.forall_mem_cons.mpr ⟨lw_p2, List.forall_mem_cons.mpr ⟨lw_p3, List.forall_mem_cons.mpr ⟨lw_p4, List.forall_mem_cons.mpr ⟨lw_p5, List.forall_mem_cons.mpr ⟨lw_p6, List.forall_mem_cons.mpr ⟨lw_p7, List.forall_mem_cons.mpr ⟨lw_p8, List.forall_mem_cons.mpr ⟨lw_p9, List.forall_mem_cons.mpr ⟨lw_p10, List.forall_mem_cons.mpr ⟨lw_p11, List.forall_mem_cons.mpr ⟨lw_p12, List.forall_mem_cons.mpr ⟨lw_p13, List.forall_mem_cons.mpr ⟨lw_p14, List.forall_mem_cons.mpr ⟨lw_p15, fun _ h => absurd h List.not_mem_nil⟩⟩⟩⟩⟩⟩⟩⟩⟩⟩⟩⟩⟩⟩⟩⟩
theorem lw_p16 : lw_okq (⟨"BinWard", "noteMissed", "(LBinWard$Lorry;I)V"⟩, 15) := ⟨⟨by decide +kernel, by decide +kernel⟩, List.mem_of_getElem? (i := 24) (by decide +kernel), List.mem_of_getElem? (i := 790) (by decide +kernel), List.mem_of_getElem? (i := 791) (by decide +kernel)⟩
theorem lw_p17 : lw_okq (⟨"BinWard", "sortLoads", "()V"⟩, 15) := ⟨⟨by decide +kernel, by decide +kernel⟩, List.mem_of_getElem? (i := 24) (by decide +kernel), List.mem_of_getElem? (i := 805) (by decide +kernel), List.mem_of_getElem? (i := 806) (by decide +kernel)⟩
theorem lw_p18 : lw_okq (⟨"BinWard", "bringIn", "(ILBinWard$Trip;I)V"⟩, 15) := ⟨⟨by decide +kernel, by decide +kernel⟩, List.mem_of_getElem? (i := 24) (by decide +kernel), List.mem_of_getElem? (i := 817) (by decide +kernel), List.mem_of_getElem? (i := 818) (by decide +kernel)⟩
def lw_privs_2 : List (MethodName × Nat) := [(⟨"BinWard", "noteMissed", "(LBinWard$Lorry;I)V"⟩, 15), (⟨"BinWard", "sortLoads", "()V"⟩, 15), (⟨"BinWard", "bringIn", "(ILBinWard$Trip;I)V"⟩, 15)]
theorem lw_r2 : ∀ q ∈ lw_privs_2, lw_okq q := List.forall_mem_cons.mpr ⟨lw_p16, List.forall_mem_cons.mpr ⟨lw_p17, List.forall_mem_cons.mpr ⟨lw_p18, fun _ h => absurd h List.not_mem_nil⟩⟩⟩
def lw_privs : List (MethodName × Nat) := lw_privs_1 ++ (lw_privs_2)
def lw_tbl : List Cond := k2_sels lw_privs ++ tables_1
theorem lw_privs_ok : ∀ q ∈ lw_privs, lw_okq q := by
  show ∀ q ∈ lw_privs_1 ++ (lw_privs_2), lw_okq q
  exact List.forall_mem_append.mpr ⟨lw_r1, lw_r2⟩
/-- the streams that the claim lets the run draw from -/
abbrev lw_cs : List Choice := [Jvm.Choice.named "NaN.bits"]
theorem lw_bits : nanBits ∈ lw_cs := by first | decide | exact List.mem_cons_self | simp [lw_cs, nanBits]
/-! names, field tables, the tables' words by their places (made by wip/p28/gen/names.py) -/
def R_Bale : String := "BinWard$Bale"
def F_Bale : u_T := fun k => match k with
  | 0 => ("BinWard$Bale", "clean", "I", false)
  | 1 => ("BinWard$Bale", "dirty", "I", false)
  | 2 => ("BinWard$Bale", "state", "I", false)
  | _ => ("BinWard$Bale", "madeOn", "I", false)
def t_Bale : Nat → FieldType := fun k => match k with
  | 0 => .int
  | 1 => .int
  | 2 => .int
  | _ => .int
theorem n_Bale : ∀ a, a < 4 → ∀ b, b < 4 → a ≠ b → (F_Bale a).2.1 ≠ (F_Bale b).2.1 := by decide +kernel
theorem t_Bale_ok : ∀ k, k < 4 → parseFieldDescriptor (F_Bale k).2.2.1 = some (t_Bale k) := by decide +kernel
def R_Baler : String := "BinWard$Baler"
def F_Baler : u_T := fun k => match k with
  | 0 => ("BinWard$Baler", "clean", "I", false)
  | 1 => ("BinWard$Baler", "dirty", "I", false)
  | 2 => ("BinWard$Baler", "bales", "[LBinWard$Bale;", true)
  | _ => ("BinWard$Baler", "count", "I", false)
def t_Baler : Nat → FieldType := fun k => match k with
  | 0 => .int
  | 1 => .int
  | 2 => .array (.object "BinWard$Bale")
  | _ => .int
theorem n_Baler : ∀ a, a < 4 → ∀ b, b < 4 → a ≠ b → (F_Baler a).2.1 ≠ (F_Baler b).2.1 := by decide +kernel
theorem t_Baler_ok : ∀ k, k < 4 → parseFieldDescriptor (F_Baler k).2.2.1 = some (t_Baler k) := by decide +kernel
def R_Diary : String := "BinWard$Diary"
def F_Diary : u_T := fun k => match k with
  | _ => ("BinWard$Diary", "marks", "[I", false)
def t_Diary : Nat → FieldType := fun k => match k with
  | _ => .array .int
theorem n_Diary : ∀ a, a < 1 → ∀ b, b < 1 → a ≠ b → (F_Diary a).2.1 ≠ (F_Diary b).2.1 := by decide +kernel
theorem t_Diary_ok : ∀ k, k < 1 → parseFieldDescriptor (F_Diary k).2.2.1 = some (t_Diary k) := by decide +kernel
def R_Furnace : String := "BinWard$Furnace"
def F_Furnace : u_T := fun k => match k with
  | 0 => ("BinWard$Furnace", "most", "I", false)
  | 1 => ("BinWard$Furnace", "left", "I", false)
  | 2 => ("BinWard$Furnace", "burnt", "I", false)
  | 3 => ("BinWard$Furnace", "ash", "I", false)
  | _ => ("BinWard$Furnace", "heat", "I", false)
def t_Furnace : Nat → FieldType := fun k => match k with
  | 0 => .int
  | 1 => .int
  | 2 => .int
  | 3 => .int
  | _ => .int
theorem n_Furnace : ∀ a, a < 5 → ∀ b, b < 5 → a ≠ b → (F_Furnace a).2.1 ≠ (F_Furnace b).2.1 := by decide +kernel
theorem t_Furnace_ok : ∀ k, k < 5 → parseFieldDescriptor (F_Furnace k).2.2.1 = some (t_Furnace k) := by decide +kernel
def R_Heap : String := "BinWard$Heap"
def F_Heap : u_T := fun k => match k with
  | 0 => ("BinWard$Heap", "clean", "I", false)
  | 1 => ("BinWard$Heap", "dirty", "I", false)
  | 2 => ("BinWard$Heap", "compost", "I", false)
  | 3 => ("BinWard$Heap", "gone", "I", false)
  | _ => ("BinWard$Heap", "arrived", "I", false)
def t_Heap : Nat → FieldType := fun k => match k with
  | 0 => .int
  | 1 => .int
  | 2 => .int
  | 3 => .int
  | _ => .int
theorem n_Heap : ∀ a, a < 5 → ∀ b, b < 5 → a ≠ b → (F_Heap a).2.1 ≠ (F_Heap b).2.1 := by decide +kernel
theorem t_Heap_ok : ∀ k, k < 5 → parseFieldDescriptor (F_Heap k).2.2.1 = some (t_Heap k) := by decide +kernel
def R_Line : String := "BinWard$Line"
def F_Line : u_T := fun k => match k with
  | 0 => ("BinWard$Line", "eye", "I", false)
  | 1 => ("BinWard$Line", "hand", "I", false)
  | _ => ("BinWard$Line", "handLeft", "I", false)
def t_Line : Nat → FieldType := fun k => match k with
  | 0 => .int
  | 1 => .int
  | _ => .int
theorem n_Line : ∀ a, a < 3 → ∀ b, b < 3 → a ≠ b → (F_Line a).2.1 ≠ (F_Line b).2.1 := by decide +kernel
theorem t_Line_ok : ∀ k, k < 3 → parseFieldDescriptor (F_Line k).2.2.1 = some (t_Line k) := by decide +kernel
def R_Lorry : String := "BinWard$Lorry"
def F_Lorry : u_T := fun k => match k with
  | 0 => ("BinWard$Lorry", "shift", "I", false)
  | 1 => ("BinWard$Lorry", "streams", "[I", true)
  | 2 => ("BinWard$Lorry", "rounds", "[[I", true)
  | 3 => ("BinWard$Lorry", "lengths", "[I", true)
  | 4 => ("BinWard$Lorry", "trip", "LBinWard$Trip;", true)
  | 5 => ("BinWard$Lorry", "latestMinutes", "I", false)
  | 6 => ("BinWard$Lorry", "latestDone", "I", false)
  | 7 => ("BinWard$Lorry", "latestHalf", "I", false)
  | _ => ("BinWard$Lorry", "fetched", "I", false)
def t_Lorry : Nat → FieldType := fun k => match k with
  | 0 => .int
  | 1 => .array .int
  | 2 => .array (.array .int)
  | 3 => .array .int
  | 4 => .object "BinWard$Trip"
  | 5 => .int
  | 6 => .int
  | 7 => .int
  | _ => .int
theorem n_Lorry : ∀ a, a < 9 → ∀ b, b < 9 → a ≠ b → (F_Lorry a).2.1 ≠ (F_Lorry b).2.1 := by decide +kernel
theorem t_Lorry_ok : ∀ k, k < 9 → parseFieldDescriptor (F_Lorry k).2.2.1 = some (t_Lorry k) := by decide +kernel
def R_Pit : String := "BinWard$Pit"
def F_Pit : u_T := fun k => match k with
  | 0 => ("BinWard$Pit", "kilos", "I", false)
  | 1 => ("BinWard$Pit", "rotting", "I", false)
  | 2 => ("BinWard$Pit", "gas", "I", false)
  | _ => ("BinWard$Pit", "cost", "I", false)
def t_Pit : Nat → FieldType := fun k => match k with
  | 0 => .int
  | 1 => .int
  | 2 => .int
  | _ => .int
theorem n_Pit : ∀ a, a < 4 → ∀ b, b < 4 → a ≠ b → (F_Pit a).2.1 ≠ (F_Pit b).2.1 := by decide +kernel
theorem t_Pit_ok : ∀ k, k < 4 → parseFieldDescriptor (F_Pit k).2.2.1 = some (t_Pit k) := by decide +kernel
def R_Search : String := "BinWard$Search"
def F_Search : u_T := fun k => match k with
  | 0 => ("BinWard$Search", "bestKilos", "I", false)
  | 1 => ("BinWard$Search", "bestNumber", "I", false)
  | _ => ("BinWard$Search", "bestMinutes", "I", false)
def t_Search : Nat → FieldType := fun k => match k with
  | 0 => .int
  | 1 => .int
  | _ => .int
theorem n_Search : ∀ a, a < 3 → ∀ b, b < 3 → a ≠ b → (F_Search a).2.1 ≠ (F_Search b).2.1 := by decide +kernel
theorem t_Search_ok : ∀ k, k < 3 → parseFieldDescriptor (F_Search k).2.2.1 = some (t_Search k) := by decide +kernel
def R_Street : String := "BinWard$Street"
def F_Street : u_T := fun k => match k with
  | 0 => ("BinWard$Street", "place", "I", false)
  | 1 => ("BinWard$Street", "dirt", "I", false)
  | 2 => ("BinWard$Street", "litter", "I", false)
  | 3 => ("BinWard$Street", "habits", "[I", true)
  | 4 => ("BinWard$Street", "clean", "[I", true)
  | 5 => ("BinWard$Street", "dirty", "[I", true)
  | 6 => ("BinWard$Street", "fetched", "[I", true)
  | 7 => ("BinWard$Street", "rightClaims", "I", false)
  | _ => ("BinWard$Street", "missedDays", "I", false)
def t_Street : Nat → FieldType := fun k => match k with
  | 0 => .int
  | 1 => .int
  | 2 => .int
  | 3 => .array .int
  | 4 => .array .int
  | 5 => .array .int
  | 6 => .array .int
  | 7 => .int
  | _ => .int
theorem n_Street : ∀ a, a < 9 → ∀ b, b < 9 → a ≠ b → (F_Street a).2.1 ≠ (F_Street b).2.1 := by decide +kernel
theorem t_Street_ok : ∀ k, k < 9 → parseFieldDescriptor (F_Street k).2.2.1 = some (t_Street k) := by decide +kernel
def R_Trip : String := "BinWard$Trip"
def F_Trip : u_T := fun k => match k with
  | 0 => ("BinWard$Trip", "clean", "[I", true)
  | 1 => ("BinWard$Trip", "dirty", "[I", true)
  | 2 => ("BinWard$Trip", "minutes", "I", false)
  | 3 => ("BinWard$Trip", "done", "I", false)
  | 4 => ("BinWard$Trip", "half", "I", false)
  | _ => ("BinWard$Trip", "fetched", "I", false)
def t_Trip : Nat → FieldType := fun k => match k with
  | 0 => .array .int
  | 1 => .array .int
  | 2 => .int
  | 3 => .int
  | 4 => .int
  | _ => .int
theorem n_Trip : ∀ a, a < 6 → ∀ b, b < 6 → a ≠ b → (F_Trip a).2.1 ≠ (F_Trip b).2.1 := by decide +kernel
theorem t_Trip_ok : ∀ k, k < 6 → parseFieldDescriptor (F_Trip k).2.2.1 = some (t_Trip k) := by decide +kernel
def R_Ward : String := "BinWard"
def F_Ward : u_T := fun k => match k with
  | 0 => ("BinWard", "streets", "[LBinWard$Street;", true)
  | 1 => ("BinWard", "spareStreets", "[LBinWard$Street;", true)
  | 2 => ("BinWard", "streetCount", "I", false)
  | 3 => ("BinWard", "lorries", "[LBinWard$Lorry;", true)
  | 4 => ("BinWard", "lorryCount", "I", false)
  | 5 => ("BinWard", "spareTrip", "LBinWard$Trip;", true)
  | 6 => ("BinWard", "search", "LBinWard$Search;", true)
  | 7 => ("BinWard", "diary", "LBinWard$Diary;", true)
  | 8 => ("BinWard", "line", "LBinWard$Line;", true)
  | 9 => ("BinWard", "baler", "LBinWard$Baler;", true)
  | 10 => ("BinWard", "furnace", "LBinWard$Furnace;", true)
  | 11 => ("BinWard", "heap", "LBinWard$Heap;", true)
  | 12 => ("BinWard", "pit", "LBinWard$Pit;", true)
  | 13 => ("BinWard", "now", "I", false)
  | _ => ("BinWard", "earned", "I", false)
def t_Ward : Nat → FieldType := fun k => match k with
  | 0 => .array (.object "BinWard$Street")
  | 1 => .array (.object "BinWard$Street")
  | 2 => .int
  | 3 => .array (.object "BinWard$Lorry")
  | 4 => .int
  | 5 => .object "BinWard$Trip"
  | 6 => .object "BinWard$Search"
  | 7 => .object "BinWard$Diary"
  | 8 => .object "BinWard$Line"
  | 9 => .object "BinWard$Baler"
  | 10 => .object "BinWard$Furnace"
  | 11 => .object "BinWard$Heap"
  | 12 => .object "BinWard$Pit"
  | 13 => .int
  | _ => .int
theorem n_Ward : ∀ a, a < 15 → ∀ b, b < 15 → a ≠ b → (F_Ward a).2.1 ≠ (F_Ward b).2.1 := by decide +kernel
theorem t_Ward_ok : ∀ k, k < 15 → parseFieldDescriptor (F_Ward k).2.2.1 = some (t_Ward k) := by decide +kernel
abbrev classes : List vw_C := [(R_Bale, F_Bale, 4), (R_Baler, F_Baler, 4), (R_Diary, F_Diary, 1), (R_Furnace, F_Furnace, 5), (R_Heap, F_Heap, 5), (R_Line, F_Line, 3), (R_Lorry, F_Lorry, 9), (R_Pit, F_Pit, 4), (R_Search, F_Search, 3), (R_Street, F_Street, 9), (R_Trip, F_Trip, 6), (R_Ward, F_Ward, 15)]
def tg : List Cond := lw_tbl.filter goodWord
theorem m_tg {w : Cond} (hg : goodWord w = true) (h : w ∈ lw_tbl) : w ∈ tg := List.mem_filter.mpr ⟨h, hg⟩
theorem m_P {i : Nat} {w : Cond} (h : (k2_sels lw_privs)[i]? = some w) (hg : goodWord w = true) : w ∈ tg := m_tg hg (List.mem_append_left _ (List.mem_of_getElem? h))
theorem m_T1 {i : Nat} {w : Cond} (h : tables_1_1[i]? = some w) (hg : goodWord w = true) : w ∈ tg := m_tg hg (List.mem_append_right _ (List.mem_append_left _ (List.mem_of_getElem? h)))
theorem m_T2 {i : Nat} {w : Cond} (h : tables_1_2[i]? = some w) (hg : goodWord w = true) : w ∈ tg := m_tg hg (List.mem_append_right _ (List.mem_append_right _ (List.mem_append_left _ (List.mem_of_getElem? h))))
theorem m_T3 {i : Nat} {w : Cond} (h : tables_1_3[i]? = some w) (hg : goodWord w = true) : w ∈ tg := m_tg hg (List.mem_append_right _ (List.mem_append_right _ (List.mem_append_right _ (List.mem_append_left _ (List.mem_of_getElem? h)))))
theorem m_T4 {i : Nat} {w : Cond} (h : tables_1_4[i]? = some w) (hg : goodWord w = true) : w ∈ tg := m_tg hg (List.mem_append_right _ (List.mem_append_right _ (List.mem_append_right _ (List.mem_append_right _ (List.mem_of_getElem? h)))))
theorem i_Bale : ∀ w ∈ u_ws R_Bale F_Bale 4, w ∈ tg := by
  intro w hw
  obtain ⟨k, hk, rfl⟩ := List.mem_map.mp hw
  have hk := List.mem_range.mp hk
  match k, hk with
  | 0, _ => exact m_T1 (i := 137) (by decide +kernel) (by decide +kernel)
  | 1, _ => exact m_T1 (i := 139) (by decide +kernel) (by decide +kernel)
  | 2, _ => exact m_T1 (i := 141) (by decide +kernel) (by decide +kernel)
  | 3, _ => exact m_T1 (i := 143) (by decide +kernel) (by decide +kernel)
  | k + 4, h => exact absurd h (by omega)
theorem i_Baler : ∀ w ∈ u_ws R_Baler F_Baler 4, w ∈ tg := by
  intro w hw
  obtain ⟨k, hk, rfl⟩ := List.mem_map.mp hw
  have hk := List.mem_range.mp hk
  match k, hk with
  | 0, _ => exact m_T1 (i := 156) (by decide +kernel) (by decide +kernel)
  | 1, _ => exact m_T1 (i := 158) (by decide +kernel) (by decide +kernel)
  | 2, _ => exact m_T1 (i := 160) (by decide +kernel) (by decide +kernel)
  | 3, _ => exact m_T1 (i := 162) (by decide +kernel) (by decide +kernel)
  | k + 4, h => exact absurd h (by omega)
theorem i_Diary : ∀ w ∈ u_ws R_Diary F_Diary 1, w ∈ tg := by
  intro w hw
  obtain ⟨k, hk, rfl⟩ := List.mem_map.mp hw
  have hk := List.mem_range.mp hk
  match k, hk with
  | 0, _ => exact m_T1 (i := 94) (by decide +kernel) (by decide +kernel)
  | k + 1, h => exact absurd h (by omega)
theorem i_Furnace : ∀ w ∈ u_ws R_Furnace F_Furnace 5, w ∈ tg := by
  intro w hw
  obtain ⟨k, hk, rfl⟩ := List.mem_map.mp hw
  have hk := List.mem_range.mp hk
  match k, hk with
  | 0, _ => exact m_T1 (i := 180) (by decide +kernel) (by decide +kernel)
  | 1, _ => exact m_T1 (i := 182) (by decide +kernel) (by decide +kernel)
  | 2, _ => exact m_T1 (i := 184) (by decide +kernel) (by decide +kernel)
  | 3, _ => exact m_T1 (i := 186) (by decide +kernel) (by decide +kernel)
  | 4, _ => exact m_T1 (i := 188) (by decide +kernel) (by decide +kernel)
  | k + 5, h => exact absurd h (by omega)
theorem i_Heap : ∀ w ∈ u_ws R_Heap F_Heap 5, w ∈ tg := by
  intro w hw
  obtain ⟨k, hk, rfl⟩ := List.mem_map.mp hw
  have hk := List.mem_range.mp hk
  match k, hk with
  | 0, _ => exact m_T1 (i := 207) (by decide +kernel) (by decide +kernel)
  | 1, _ => exact m_T1 (i := 209) (by decide +kernel) (by decide +kernel)
  | 2, _ => exact m_T1 (i := 211) (by decide +kernel) (by decide +kernel)
  | 3, _ => exact m_T1 (i := 213) (by decide +kernel) (by decide +kernel)
  | 4, _ => exact m_T1 (i := 215) (by decide +kernel) (by decide +kernel)
  | k + 5, h => exact absurd h (by omega)
theorem i_Line : ∀ w ∈ u_ws R_Line F_Line 3, w ∈ tg := by
  intro w hw
  obtain ⟨k, hk, rfl⟩ := List.mem_map.mp hw
  have hk := List.mem_range.mp hk
  match k, hk with
  | 0, _ => exact m_T1 (i := 108) (by decide +kernel) (by decide +kernel)
  | 1, _ => exact m_T1 (i := 110) (by decide +kernel) (by decide +kernel)
  | 2, _ => exact m_T1 (i := 112) (by decide +kernel) (by decide +kernel)
  | k + 3, h => exact absurd h (by omega)
theorem i_Lorry : ∀ w ∈ u_ws R_Lorry F_Lorry 9, w ∈ tg := by
  intro w hw
  obtain ⟨k, hk, rfl⟩ := List.mem_map.mp hw
  have hk := List.mem_range.mp hk
  match k, hk with
  | 0, _ => exact m_T2 (i := 77) (by decide +kernel) (by decide +kernel)
  | 1, _ => exact m_T2 (i := 79) (by decide +kernel) (by decide +kernel)
  | 2, _ => exact m_T2 (i := 81) (by decide +kernel) (by decide +kernel)
  | 3, _ => exact m_T2 (i := 83) (by decide +kernel) (by decide +kernel)
  | 4, _ => exact m_T2 (i := 85) (by decide +kernel) (by decide +kernel)
  | 5, _ => exact m_T2 (i := 87) (by decide +kernel) (by decide +kernel)
  | 6, _ => exact m_T2 (i := 89) (by decide +kernel) (by decide +kernel)
  | 7, _ => exact m_T2 (i := 91) (by decide +kernel) (by decide +kernel)
  | 8, _ => exact m_T2 (i := 93) (by decide +kernel) (by decide +kernel)
  | k + 9, h => exact absurd h (by omega)
theorem i_Pit : ∀ w ∈ u_ws R_Pit F_Pit 4, w ∈ tg := by
  intro w hw
  obtain ⟨k, hk, rfl⟩ := List.mem_map.mp hw
  have hk := List.mem_range.mp hk
  match k, hk with
  | 0, _ => exact m_T1 (i := 232) (by decide +kernel) (by decide +kernel)
  | 1, _ => exact m_T1 (i := 234) (by decide +kernel) (by decide +kernel)
  | 2, _ => exact m_T1 (i := 236) (by decide +kernel) (by decide +kernel)
  | 3, _ => exact m_T1 (i := 238) (by decide +kernel) (by decide +kernel)
  | k + 4, h => exact absurd h (by omega)
theorem i_Search : ∀ w ∈ u_ws R_Search F_Search 3, w ∈ tg := by
  intro w hw
  obtain ⟨k, hk, rfl⟩ := List.mem_map.mp hw
  have hk := List.mem_range.mp hk
  match k, hk with
  | 0, _ => exact m_T1 (i := 80) (by decide +kernel) (by decide +kernel)
  | 1, _ => exact m_T1 (i := 82) (by decide +kernel) (by decide +kernel)
  | 2, _ => exact m_T1 (i := 84) (by decide +kernel) (by decide +kernel)
  | k + 3, h => exact absurd h (by omega)
theorem i_Street : ∀ w ∈ u_ws R_Street F_Street 9, w ∈ tg := by
  intro w hw
  obtain ⟨k, hk, rfl⟩ := List.mem_map.mp hw
  have hk := List.mem_range.mp hk
  match k, hk with
  | 0, _ => exact m_T2 (i := 26) (by decide +kernel) (by decide +kernel)
  | 1, _ => exact m_T2 (i := 28) (by decide +kernel) (by decide +kernel)
  | 2, _ => exact m_T2 (i := 30) (by decide +kernel) (by decide +kernel)
  | 3, _ => exact m_T2 (i := 32) (by decide +kernel) (by decide +kernel)
  | 4, _ => exact m_T2 (i := 34) (by decide +kernel) (by decide +kernel)
  | 5, _ => exact m_T2 (i := 36) (by decide +kernel) (by decide +kernel)
  | 6, _ => exact m_T2 (i := 38) (by decide +kernel) (by decide +kernel)
  | 7, _ => exact m_T2 (i := 40) (by decide +kernel) (by decide +kernel)
  | 8, _ => exact m_T2 (i := 42) (by decide +kernel) (by decide +kernel)
  | k + 9, h => exact absurd h (by omega)
theorem i_Trip : ∀ w ∈ u_ws R_Trip F_Trip 6, w ∈ tg := by
  intro w hw
  obtain ⟨k, hk, rfl⟩ := List.mem_map.mp hw
  have hk := List.mem_range.mp hk
  match k, hk with
  | 0, _ => exact m_T1 (i := 55) (by decide +kernel) (by decide +kernel)
  | 1, _ => exact m_T1 (i := 57) (by decide +kernel) (by decide +kernel)
  | 2, _ => exact m_T1 (i := 59) (by decide +kernel) (by decide +kernel)
  | 3, _ => exact m_T1 (i := 61) (by decide +kernel) (by decide +kernel)
  | 4, _ => exact m_T1 (i := 63) (by decide +kernel) (by decide +kernel)
  | 5, _ => exact m_T1 (i := 65) (by decide +kernel) (by decide +kernel)
  | k + 6, h => exact absurd h (by omega)
theorem i_Ward : ∀ w ∈ u_ws R_Ward F_Ward 15, w ∈ tg := by
  intro w hw
  obtain ⟨k, hk, rfl⟩ := List.mem_map.mp hw
  have hk := List.mem_range.mp hk
  match k, hk with
  | 0, _ => exact m_T2 (i := 111) (by decide +kernel) (by decide +kernel)
  | 1, _ => exact m_T2 (i := 113) (by decide +kernel) (by decide +kernel)
  | 2, _ => exact m_T2 (i := 115) (by decide +kernel) (by decide +kernel)
  | 3, _ => exact m_T2 (i := 117) (by decide +kernel) (by decide +kernel)
  | 4, _ => exact m_T2 (i := 119) (by decide +kernel) (by decide +kernel)
  | 5, _ => exact m_T2 (i := 121) (by decide +kernel) (by decide +kernel)
  | 6, _ => exact m_T2 (i := 123) (by decide +kernel) (by decide +kernel)
  | 7, _ => exact m_T2 (i := 125) (by decide +kernel) (by decide +kernel)
  | 8, _ => exact m_T2 (i := 127) (by decide +kernel) (by decide +kernel)
  | 9, _ => exact m_T2 (i := 129) (by decide +kernel) (by decide +kernel)
  | 10, _ => exact m_T2 (i := 131) (by decide +kernel) (by decide +kernel)
  | 11, _ => exact m_T2 (i := 133) (by decide +kernel) (by decide +kernel)
  | 12, _ => exact m_T2 (i := 135) (by decide +kernel) (by decide +kernel)
  | 13, _ => exact m_T2 (i := 137) (by decide +kernel) (by decide +kernel)
  | 14, _ => exact m_T2 (i := 139) (by decide +kernel) (by decide +kernel)
  | k + 15, h => exact absurd h (by omega)
