/-! THE TABLES of this class, printed by wip/tools/tables.py -/
def tb0 : List Cond := lw_tbl.filter goodWord
def sp0 : List Cond := lw_tbl.filter rf_spk
theorem tbm {w : Cond} (i : Nat) (h : (decide (lw_tbl[i]? = some w) && goodWord w) = true) : w ∈ tb0 := by
  simp only [Bool.and_eq_true, decide_eq_true_eq] at h
  exact List.mem_filter.mpr ⟨List.mem_of_getElem? h.1, h.2⟩
theorem spm {w : Cond} (i : Nat) (h : (decide (lw_tbl[i]? = some w) && rf_spk w) = true) : w ∈ sp0 := by
  simp only [Bool.and_eq_true, decide_eq_true_eq] at h
  exact List.mem_filter.mpr ⟨List.mem_of_getElem? h.1, h.2⟩
theorem tbl {ws : List Cond} (ps : List Nat) (h : (decide (ps.map (fun i => lw_tbl[i]?) = ws.map some) && ws.all goodWord) = true) : ∀ w ∈ ws, w ∈ tb0 := by
  simp only [Bool.and_eq_true, decide_eq_true_eq, List.all_eq_true] at h
  intro w hw
  have h2 : some w ∈ ps.map (fun i => lw_tbl[i]?) := by rw [h.1]; exact List.mem_map.mpr ⟨w, hw, rfl⟩
  obtain ⟨i, -, hi⟩ := List.mem_map.mp h2
  exact List.mem_filter.mpr ⟨List.mem_of_getElem? hi, h.2 w hw⟩
theorem tb1 {w : Cond} (i : Nat) (h : tables_1_1[i]? = some w) (hg : goodWord w = true) : w ∈ tb0 := by
  refine List.mem_filter.mpr ⟨List.mem_append_right _ ?_, hg⟩
  have h1 := List.mem_of_getElem? h
  unfold tables_1
  simp only [List.mem_append]
  simp only [h1, true_or, or_true]
theorem tb2 {w : Cond} (i : Nat) (h : tables_1_2[i]? = some w) (hg : goodWord w = true) : w ∈ tb0 := by
  refine List.mem_filter.mpr ⟨List.mem_append_right _ ?_, hg⟩
  have h1 := List.mem_of_getElem? h
  unfold tables_1
  simp only [List.mem_append]
  simp only [h1, true_or, or_true]
theorem tb3 {w : Cond} (i : Nat) (h : tables_1_3[i]? = some w) (hg : goodWord w = true) : w ∈ tb0 := by
  refine List.mem_filter.mpr ⟨List.mem_append_right _ ?_, hg⟩
  have h1 := List.mem_of_getElem? h
  unfold tables_1
  simp only [List.mem_append]
  simp only [h1, true_or, or_true]
theorem tb4 {w : Cond} (i : Nat) (h : tables_1_4[i]? = some w) (hg : goodWord w = true) : w ∈ tb0 := by
  refine List.mem_filter.mpr ⟨List.mem_append_right _ ?_, hg⟩
  have h1 := List.mem_of_getElem? h
  unfold tables_1
  simp only [List.mem_append]
  simp only [h1, true_or, or_true]
theorem tb5 {w : Cond} (i : Nat) (h : tables_1_5[i]? = some w) (hg : goodWord w = true) : w ∈ tb0 := by
  refine List.mem_filter.mpr ⟨List.mem_append_right _ ?_, hg⟩
  have h1 := List.mem_of_getElem? h
  unfold tables_1
  simp only [List.mem_append]
  simp only [h1, true_or, or_true]
theorem tb6 {w : Cond} (i : Nat) (h : tables_1_6[i]? = some w) (hg : goodWord w = true) : w ∈ tb0 := by
  refine List.mem_filter.mpr ⟨List.mem_append_right _ ?_, hg⟩
  have h1 := List.mem_of_getElem? h
  unfold tables_1
  simp only [List.mem_append]
  simp only [h1, true_or, or_true]
theorem tb7 {w : Cond} (i : Nat) (h : tables_1_7[i]? = some w) (hg : goodWord w = true) : w ∈ tb0 := by
  refine List.mem_filter.mpr ⟨List.mem_append_right _ ?_, hg⟩
  have h1 := List.mem_of_getElem? h
  unfold tables_1
  simp only [List.mem_append]
  simp only [h1, true_or, or_true]
theorem tb0_good : ∀ w ∈ tb0, (w.onTables && w.keeps) = true ∨ ∃ ty, w = .arrayClass ty := fun w h => good_of_word (List.mem_filter.mp h).2
theorem sp0_spk : ∀ w ∈ sp0, rf_spk w = true := fun w h => (List.mem_filter.mp h).2
def fl_0 : List (String × String × String × Bool) := [("MemoryTransactions", "tape", "[I", true), ("MemoryTransactions", "tapeLength", "I", false), ("MemoryTransactions", "programs", "[LMemoryTransactions$Program;", true), ("MemoryTransactions", "programCount", "I", false), ("MemoryTransactions", "faultPlace", "I", false), ("MemoryTransactions", "parser", "LMemoryTransactions$Parser;", true), ("MemoryTransactions", "store", "LMemoryTransactions$Store;", true), ("MemoryTransactions", "clients", "[LMemoryTransactions$Client;", true), ("MemoryTransactions", "journal", "LMemoryTransactions$Journal;", true), ("MemoryTransactions", "replay", "LMemoryTransactions$Replay;", true)]
def tl_0 : List FieldType := [(.array .int), .int, (.array (.object "MemoryTransactions$Program")), .int, .int, (.object "MemoryTransactions$Parser"), (.object "MemoryTransactions$Store"), (.array (.object "MemoryTransactions$Client")), (.object "MemoryTransactions$Journal"), (.object "MemoryTransactions$Replay")]
def cq_0 : vw_C := ("MemoryTransactions", (fun k => fl_0.getD k ("", "", "", false)), 10)
def fl_1 : List (String × String × String × Bool) := [("MemoryTransactions$Program", "count", "I", false), ("MemoryTransactions$Program", "unaries", "I", false), ("MemoryTransactions$Program", "deepest", "I", false), ("MemoryTransactions$Program", "codeCount", "I", false), ("MemoryTransactions$Program", "entry", "I", false), ("MemoryTransactions$Program", "kinds", "[I", true), ("MemoryTransactions$Program", "letters", "[I", true), ("MemoryTransactions$Program", "codes", "[I", true), ("MemoryTransactions$Program", "parents", "[I", true), ("MemoryTransactions$Program", "parts", "[I", true), ("MemoryTransactions$Program", "depths", "[I", true), ("MemoryTransactions$Program", "siblings", "[I", true), ("MemoryTransactions$Program", "firsts", "[I", true), ("MemoryTransactions$Program", "seconds", "[I", true), ("MemoryTransactions$Program", "operations", "[I", true), ("MemoryTransactions$Program", "operands", "[I", true)]
def tl_1 : List FieldType := [.int, .int, .int, .int, .int, (.array .int), (.array .int), (.array .int), (.array .int), (.array .int), (.array .int), (.array .int), (.array .int), (.array .int), (.array .int), (.array .int)]
def cq_1 : vw_C := ("MemoryTransactions$Program", (fun k => fl_1.getD k ("", "", "", false)), 16)
def fl_2 : List (String × String × String × Bool) := [("MemoryTransactions$Parser", "scanner", "LMemoryTransactions$Scanner;", true), ("MemoryTransactions$Parser", "program", "LMemoryTransactions$Program;", false), ("MemoryTransactions$Parser", "at", "I", false), ("MemoryTransactions$Parser", "fault", "I", false), ("MemoryTransactions$Parser", "inRule", "Z", false)]
def tl_2 : List FieldType := [(.object "MemoryTransactions$Scanner"), (.object "MemoryTransactions$Program"), .int, .int, .boolean]
def cq_2 : vw_C := ("MemoryTransactions$Parser", (fun k => fl_2.getD k ("", "", "", false)), 5)
def fl_3 : List (String × String × String × Bool) := [("MemoryTransactions$Scanner", "tokens", "[I", true), ("MemoryTransactions$Scanner", "starts", "[I", true), ("MemoryTransactions$Scanner", "numbers", "[I", true), ("MemoryTransactions$Scanner", "last", "I", false), ("MemoryTransactions$Scanner", "bytes", "[I", false), ("MemoryTransactions$Scanner", "length", "I", false), ("MemoryTransactions$Scanner", "next", "I", false)]
def tl_3 : List FieldType := [(.array .int), (.array .int), (.array .int), .int, (.array .int), .int, .int]
def cq_3 : vw_C := ("MemoryTransactions$Scanner", (fun k => fl_3.getD k ("", "", "", false)), 7)
def fl_4 : List (String × String × String × Bool) := [("MemoryTransactions$Store", "values", "[J", true), ("MemoryTransactions$Store", "versions", "[I", true), ("MemoryTransactions$Store", "ruleCount", "I", false), ("MemoryTransactions$Store", "rulePrograms", "[LMemoryTransactions$Program;", true), ("MemoryTransactions$Store", "ruleStatements", "[I", true), ("MemoryTransactions$Store", "ahead", "[J", true), ("MemoryTransactions$Store", "calculator", "LMemoryTransactions$Calculator;", true), ("MemoryTransactions$Letters", "found", "J", false)]
def tl_4 : List FieldType := [(.array .long), (.array .int), .int, (.array (.object "MemoryTransactions$Program")), (.array .int), (.array .long), (.object "MemoryTransactions$Calculator"), .long]
def cq_4 : vw_C := ("MemoryTransactions$Store", (fun k => fl_4.getD k ("", "", "", false)), 8)
def fl_5 : List (String × String × String × Bool) := [("MemoryTransactions$Calculator", "stack", "[J", true), ("MemoryTransactions$Calculator", "height", "I", false)]
def tl_5 : List FieldType := [(.array .long), .int]
def cq_5 : vw_C := ("MemoryTransactions$Calculator", (fun k => fl_5.getD k ("", "", "", false)), 2)
def fl_6 : List (String × String × String × Bool) := [("MemoryTransactions$Client", "state", "I", false), ("MemoryTransactions$Client", "cuts", "I", false), ("MemoryTransactions$Client", "urgent", "Z", false), ("MemoryTransactions$Client", "todo", "[I", true), ("MemoryTransactions$Client", "run", "LMemoryTransactions$Run;", true), ("MemoryTransactions$Client", "count", "I", false), ("MemoryTransactions$Client", "waitMask", "I", false), ("MemoryTransactions$Client", "waitVersions", "[I", true)]
def tl_6 : List FieldType := [.int, .int, .boolean, (.array .int), (.object "MemoryTransactions$Run"), .int, .int, (.array .int)]
def cq_6 : vw_C := ("MemoryTransactions$Client", (fun k => fl_6.getD k ("", "", "", false)), 8)
def fl_7 : List (String × String × String × Bool) := [("MemoryTransactions$Run", "program", "LMemoryTransactions$Program;", false), ("MemoryTransactions$Run", "steps", "I", false), ("MemoryTransactions$Run", "readMask", "I", false), ("MemoryTransactions$Run", "thrown", "J", false), ("MemoryTransactions$Run", "readVersions", "[I", true), ("MemoryTransactions$Run", "draft", "LMemoryTransactions$Draft;", true), ("MemoryTransactions$Run", "at", "I", false), ("MemoryTransactions$Run", "readValues", "[J", true), ("MemoryTransactions$Run", "store", "LMemoryTransactions$Store;", true), ("MemoryTransactions$Run", "calculator", "LMemoryTransactions$Calculator;", true), ("MemoryTransactions$Letters", "found", "J", false)]
def tl_7 : List FieldType := [(.object "MemoryTransactions$Program"), .int, .int, .long, (.array .int), (.object "MemoryTransactions$Draft"), .int, (.array .long), (.object "MemoryTransactions$Store"), (.object "MemoryTransactions$Calculator"), .long]
def cq_7 : vw_C := ("MemoryTransactions$Run", (fun k => fl_7.getD k ("", "", "", false)), 11)
def fl_8 : List (String × String × String × Bool) := [("MemoryTransactions$Draft", "writtenMask", "I", false), ("MemoryTransactions$Draft", "written", "[J", true), ("MemoryTransactions$Draft", "locals", "[J", true), ("MemoryTransactions$Draft", "ruleCount", "I", false), ("MemoryTransactions$Draft", "rules", "[I", true), ("MemoryTransactions$Draft", "markedMasks", "[I", true), ("MemoryTransactions$Draft", "markedWritten", "[J", true), ("MemoryTransactions$Draft", "markedLocals", "[J", true), ("MemoryTransactions$Draft", "markedRuleCounts", "[I", true)]
def tl_8 : List FieldType := [.int, (.array .long), (.array .long), .int, (.array .int), (.array .int), (.array .long), (.array .long), (.array .int)]
def cq_8 : vw_C := ("MemoryTransactions$Draft", (fun k => fl_8.getD k ("", "", "", false)), 9)
def fl_9 : List (String × String × String × Bool) := [("MemoryTransactions$Journal", "count", "I", false), ("MemoryTransactions$Journal", "kinds", "[I", true), ("MemoryTransactions$Journal", "who", "[I", true), ("MemoryTransactions$Journal", "what", "[I", true), ("MemoryTransactions$Journal", "steps", "[I", true), ("MemoryTransactions$Journal", "cuts", "[I", true), ("MemoryTransactions$Journal", "values", "[J", true)]
def tl_9 : List FieldType := [.int, (.array .int), (.array .int), (.array .int), (.array .int), (.array .int), (.array .long)]
def cq_9 : vw_C := ("MemoryTransactions$Journal", (fun k => fl_9.getD k ("", "", "", false)), 7)
def fl_10 : List (String × String × String × Bool) := [("MemoryTransactions$Replay", "store", "LMemoryTransactions$Store;", true), ("MemoryTransactions$Replay", "redone", "I", false), ("MemoryTransactions$Replay", "same", "Z", false), ("MemoryTransactions$Replay", "programs", "[LMemoryTransactions$Program;", true), ("MemoryTransactions$Replay", "run", "LMemoryTransactions$Run;", true)]
def tl_10 : List FieldType := [(.object "MemoryTransactions$Store"), .int, .boolean, (.array (.object "MemoryTransactions$Program")), (.object "MemoryTransactions$Run")]
def cq_10 : vw_C := ("MemoryTransactions$Replay", (fun k => fl_10.getD k ("", "", "", false)), 5)
def fl_11 : List (String × String × String × Bool) := [("MemoryTransactionsModel", "code", "I", false), ("MemoryTransactionsModel", "tape", "[B", true), ("MemoryTransactionsModel", "size", "I", false), ("MemoryTransactionsModel", "at", "I", false), ("MemoryTransactionsModel", "token", "I", false), ("MemoryTransactionsModel", "tokenPlace", "I", false), ("MemoryTransactionsModel", "letter", "I", false), ("MemoryTransactionsModel", "number", "J", false), ("MemoryTransactionsModel", "sign", "I", false), ("MemoryTransactionsModel", "bad", "Z", false), ("MemoryTransactionsModel", "place", "I", false), ("MemoryTransactionsModel", "texts", "I", false), ("MemoryTransactionsModel", "statementCounts", "[I", true), ("MemoryTransactionsModel", "unaryCounts", "[I", true), ("MemoryTransactionsModel", "depths", "[I", true), ("MemoryTransactionsModel", "firstStatements", "[I", true), ("MemoryTransactionsModel", "actCounts", "[I", true), ("MemoryTransactionsModel", "kinds", "[I", true), ("MemoryTransactionsModel", "nexts", "[I", true), ("MemoryTransactionsModel", "parents", "[I", true), ("MemoryTransactionsModel", "whiches", "[I", true), ("MemoryTransactionsModel", "exps", "[I", true), ("MemoryTransactionsModel", "firstBodies", "[I", true), ("MemoryTransactionsModel", "secondBodies", "[I", true), ("MemoryTransactionsModel", "letters", "[I", true), ("MemoryTransactionsModel", "acts", "[I", true), ("MemoryTransactionsModel", "actLetters", "[I", true), ("MemoryTransactionsModel", "actNumbers", "[J", true), ("MemoryTransactionsModel", "reading", "I", false), ("MemoryTransactionsModel", "pile", "[I", true), ("MemoryTransactionsModel", "piled", "I", false), ("MemoryTransactionsModel", "opens", "I", false), ("MemoryTransactionsModel", "compared", "[Z", true), ("MemoryTransactionsModel", "level", "I", false), ("MemoryTransactionsModel", "openOwners", "[I", true), ("MemoryTransactionsModel", "openWhiches", "[I", true), ("MemoryTransactionsModel", "openLasts", "[I", true), ("MemoryTransactionsModel", "within", "I", false), ("MemoryTransactionsModel", "cells", "[J", true), ("MemoryTransactionsModel", "versions", "[I", true), ("MemoryTransactionsModel", "ruleCounts", "[I", true), ("MemoryTransactionsModel", "ruleExps", "[I", true), ("MemoryTransactionsModel", "world", "I", false), ("MemoryTransactionsModel", "queues", "[I", true), ("MemoryTransactionsModel", "queueCounts", "[I", true), ("MemoryTransactionsModel", "states", "[I", true), ("MemoryTransactionsModel", "steps", "[I", true), ("MemoryTransactionsModel", "cuts", "[I", true), ("MemoryTransactionsModel", "urgent", "[Z", true), ("MemoryTransactionsModel", "readBits", "[I", true), ("MemoryTransactionsModel", "readValues", "[J", true), ("MemoryTransactionsModel", "readVersions", "[I", true), ("MemoryTransactionsModel", "bits", "I", false), ("MemoryTransactionsModel", "seen", "[J", true), ("MemoryTransactionsModel", "seenVersions", "[I", true), ("MemoryTransactionsModel", "writtenBits", "I", false), ("MemoryTransactionsModel", "written", "[J", true), ("MemoryTransactionsModel", "locals", "[J", true), ("MemoryTransactionsModel", "alwaysCount", "I", false), ("MemoryTransactionsModel", "always", "[I", true), ("MemoryTransactionsModel", "pos", "I", false), ("MemoryTransactionsModel", "keptBits", "[I", true), ("MemoryTransactionsModel", "keptWritten", "[J", true), ("MemoryTransactionsModel", "keptLocals", "[J", true), ("MemoryTransactionsModel", "keptAlways", "[I", true), ("MemoryTransactionsModel", "ended", "I", false), ("MemoryTransactionsModel", "thrownValue", "J", false), ("MemoryTransactionsModel", "stack", "[J", true), ("MemoryTransactionsModel", "would", "[J", true), ("MemoryTransactionsModel", "rows", "I", false), ("MemoryTransactionsModel", "rowKinds", "[I", true), ("MemoryTransactionsModel", "rowClients", "[I", true), ("MemoryTransactionsModel", "rowNumbers", "[I", true), ("MemoryTransactionsModel", "rowSteps", "[I", true), ("MemoryTransactionsModel", "rowCuts", "[I", true), ("MemoryTransactionsModel", "rowValues", "[J", true)]
def tl_11 : List FieldType := [.int, (.array .byte), .int, .int, .int, .int, .int, .long, .int, .boolean, .int, .int, (.array .int), (.array .int), (.array .int), (.array .int), (.array .int), (.array .int), (.array .int), (.array .int), (.array .int), (.array .int), (.array .int), (.array .int), (.array .int), (.array .int), (.array .int), (.array .long), .int, (.array .int), .int, .int, (.array .boolean), .int, (.array .int), (.array .int), (.array .int), .int, (.array .long), (.array .int), (.array .int), (.array .int), .int, (.array .int), (.array .int), (.array .int), (.array .int), (.array .int), (.array .boolean), (.array .int), (.array .long), (.array .int), .int, (.array .long), (.array .int), .int, (.array .long), (.array .long), .int, (.array .int), .int, (.array .int), (.array .long), (.array .long), (.array .int), .int, .long, (.array .long), (.array .long), .int, (.array .int), (.array .int), (.array .int), (.array .int), (.array .int), (.array .long)]
def cq_11 : vw_C := ("MemoryTransactionsModel", (fun k => fl_11.getD k ("", "", "", false)), 76)
def cl0 : List vw_C := [cq_0, cq_1, cq_2, cq_3, cq_4, cq_5, cq_6, cq_7, cq_8, cq_9, cq_10, cq_11]
def oq_0 : vw_C := ("java/lang/String", (fun k => if k = 0 then ("java/lang/String", "value", "[B", true) else ("java/lang/String", "coder", "B", true)), 2)
def ocl0 : List vw_C := [oq_0]
def tyL : List (List FieldType) := [tl_0, tl_1, tl_2, tl_3, tl_4, tl_5, tl_6, tl_7, tl_8, tl_9, tl_10, tl_11]
def ty0 : Int → Nat → FieldType := fun z k => if z < 0 then (if k = 0 then .array .byte else .byte) else (tyL.getD z.toNat []).getD k .int
def str0 : List (String × Nat × String × Nat) := [("MemoryTransactions$Scanner", 63, "if", 2), ("MemoryTransactions$Scanner", 69, "else", 4), ("MemoryTransactions$Scanner", 71, "while", 6), ("MemoryTransactions$Scanner", 73, "retry", 8), ("MemoryTransactions$Scanner", 75, "throw", 10), ("MemoryTransactions$Scanner", 77, "either", 12), ("MemoryTransactions$Scanner", 79, "or", 14), ("MemoryTransactions$Scanner", 81, "try", 16), ("MemoryTransactions$Scanner", 83, "catch", 18), ("MemoryTransactions$Scanner", 85, "always", 20)]
def stt0 (fz : Bool) : List (String × String × String × Value) := [("java/lang/String", "COMPACT_STRINGS", "Z", Value.int (Int32.ofNat 1)), ("jdk/internal/util/Preconditions", "SIOOBE_FORMATTER", "Ljava/util/function/BiFunction;", if fz then Value.ref 0 else Value.null)]
theorem uw_0 : ∀ w ∈ u_ws cq_0.1 cq_0.2.1 cq_0.2.2, w ∈ tb0 := tbl [509, 511, 513, 515, 517, 519, 521, 523, 525, 527] (by decide +kernel)
theorem ut_0 : ∀ k, k < cq_0.2.2 → (parseFieldDescriptor (cq_0.2.1 k).2.2.1 = some (ty0 (0 : Nat) k) ∧ ty0 (0 : Nat) k ≠ .float ∧ ty0 (0 : Nat) k ≠ .double) := by decide +kernel
theorem ins_0 : Cond.instantiable cq_0.1 cq_0.2.2 ∈ tb0 := (tb1 22 rfl rfl)
theorem un_0 : ∀ a, a < cq_0.2.2 → ∀ b, b < cq_0.2.2 → a ≠ b → (cq_0.2.1 a).2.1 ≠ (cq_0.2.1 b).2.1 := by decide +kernel
theorem uw_1 : ∀ w ∈ u_ws cq_1.1 cq_1.2.1 cq_1.2.2, w ∈ tb0 := tbl [157, 159, 161, 163, 165, 167, 169, 171, 173, 175, 177, 179, 181, 183, 185, 187] (by decide +kernel)
theorem ut_1 : ∀ k, k < cq_1.2.2 → (parseFieldDescriptor (cq_1.2.1 k).2.2.1 = some (ty0 (1 : Nat) k) ∧ ty0 (1 : Nat) k ≠ .float ∧ ty0 (1 : Nat) k ≠ .double) := by decide +kernel
theorem ins_1 : Cond.instantiable cq_1.1 cq_1.2.2 ∈ tb0 := (tb1 31 rfl rfl)
theorem un_1 : ∀ a, a < cq_1.2.2 → ∀ b, b < cq_1.2.2 → a ≠ b → (cq_1.2.1 a).2.1 ≠ (cq_1.2.1 b).2.1 := by decide +kernel
theorem uw_2 : ∀ w ∈ u_ws cq_2.1 cq_2.2.1 cq_2.2.2, w ∈ tb0 := tbl [236, 238, 240, 242, 244] (by decide +kernel)
theorem ut_2 : ∀ k, k < cq_2.2.2 → (parseFieldDescriptor (cq_2.2.1 k).2.2.1 = some (ty0 (2 : Nat) k) ∧ ty0 (2 : Nat) k ≠ .float ∧ ty0 (2 : Nat) k ≠ .double) := by decide +kernel
theorem ins_2 : Cond.instantiable cq_2.1 cq_2.2.2 ∈ tb0 := (tb1 108 rfl rfl)
theorem un_2 : ∀ a, a < cq_2.2.2 → ∀ b, b < cq_2.2.2 → a ≠ b → (cq_2.2.1 a).2.1 ≠ (cq_2.2.1 b).2.1 := by decide +kernel
theorem uw_3 : ∀ w ∈ u_ws cq_3.1 cq_3.2.1 cq_3.2.2, w ∈ tb0 := tbl [214, 216, 218, 220, 222, 224, 226] (by decide +kernel)
theorem ut_3 : ∀ k, k < cq_3.2.2 → (parseFieldDescriptor (cq_3.2.1 k).2.2.1 = some (ty0 (3 : Nat) k) ∧ ty0 (3 : Nat) k ≠ .float ∧ ty0 (3 : Nat) k ≠ .double) := by decide +kernel
theorem ins_3 : Cond.instantiable cq_3.1 cq_3.2.2 ∈ tb0 := (tb1 114 rfl rfl)
theorem un_3 : ∀ a, a < cq_3.2.2 → ∀ b, b < cq_3.2.2 → a ≠ b → (cq_3.2.1 a).2.1 ≠ (cq_3.2.1 b).2.1 := by decide +kernel
theorem uw_4 : ∀ w ∈ u_ws cq_4.1 cq_4.2.1 cq_4.2.2, w ∈ tb0 := tbl [288, 290, 292, 294, 296, 298, 300, 302] (by decide +kernel)
theorem ut_4 : ∀ k, k < cq_4.2.2 → (parseFieldDescriptor (cq_4.2.1 k).2.2.1 = some (ty0 (4 : Nat) k) ∧ ty0 (4 : Nat) k ≠ .float ∧ ty0 (4 : Nat) k ≠ .double) := by decide +kernel
theorem ins_4 : Cond.instantiable cq_4.1 cq_4.2.2 ∈ tb0 := (tb1 164 rfl rfl)
theorem un_4 : ∀ a, a < cq_4.2.2 → ∀ b, b < cq_4.2.2 → a ≠ b → (cq_4.2.1 a).2.1 ≠ (cq_4.2.1 b).2.1 := by decide +kernel
theorem uw_5 : ∀ w ∈ u_ws cq_5.1 cq_5.2.1 cq_5.2.2, w ∈ tb0 := tbl [265, 267] (by decide +kernel)
theorem ut_5 : ∀ k, k < cq_5.2.2 → (parseFieldDescriptor (cq_5.2.1 k).2.2.1 = some (ty0 (5 : Nat) k) ∧ ty0 (5 : Nat) k ≠ .float ∧ ty0 (5 : Nat) k ≠ .double) := by decide +kernel
theorem ins_5 : Cond.instantiable cq_5.1 cq_5.2.2 ∈ tb0 := (tb1 174 rfl rfl)
theorem un_5 : ∀ a, a < cq_5.2.2 → ∀ b, b < cq_5.2.2 → a ≠ b → (cq_5.2.1 a).2.1 ≠ (cq_5.2.1 b).2.1 := by decide +kernel
theorem uw_6 : ∀ w ∈ u_ws cq_6.1 cq_6.2.1 cq_6.2.2, w ∈ tb0 := tbl [419, 421, 423, 425, 427, 429, 431, 433] (by decide +kernel)
theorem ut_6 : ∀ k, k < cq_6.2.2 → (parseFieldDescriptor (cq_6.2.1 k).2.2.1 = some (ty0 (6 : Nat) k) ∧ ty0 (6 : Nat) k ≠ .float ∧ ty0 (6 : Nat) k ≠ .double) := by decide +kernel
theorem ins_6 : Cond.instantiable cq_6.1 cq_6.2.2 ∈ tb0 := (tb1 223 rfl rfl)
theorem un_6 : ∀ a, a < cq_6.2.2 → ∀ b, b < cq_6.2.2 → a ≠ b → (cq_6.2.1 a).2.1 ≠ (cq_6.2.1 b).2.1 := by decide +kernel
theorem uw_7 : ∀ w ∈ u_ws cq_7.1 cq_7.2.1 cq_7.2.2, w ∈ tb0 := tbl [384, 386, 388, 390, 392, 394, 396, 398, 400, 402, 404] (by decide +kernel)
theorem ut_7 : ∀ k, k < cq_7.2.2 → (parseFieldDescriptor (cq_7.2.1 k).2.2.1 = some (ty0 (7 : Nat) k) ∧ ty0 (7 : Nat) k ≠ .float ∧ ty0 (7 : Nat) k ≠ .double) := by decide +kernel
theorem ins_7 : Cond.instantiable cq_7.1 cq_7.2.2 ∈ tb0 := (tb1 229 rfl rfl)
theorem un_7 : ∀ a, a < cq_7.2.2 → ∀ b, b < cq_7.2.2 → a ≠ b → (cq_7.2.1 a).2.1 ≠ (cq_7.2.1 b).2.1 := by decide +kernel
theorem uw_8 : ∀ w ∈ u_ws cq_8.1 cq_8.2.1 cq_8.2.2, w ∈ tb0 := tbl [340, 342, 344, 346, 348, 350, 352, 354, 356] (by decide +kernel)
theorem ut_8 : ∀ k, k < cq_8.2.2 → (parseFieldDescriptor (cq_8.2.1 k).2.2.1 = some (ty0 (8 : Nat) k) ∧ ty0 (8 : Nat) k ≠ .float ∧ ty0 (8 : Nat) k ≠ .double) := by decide +kernel
theorem ins_8 : Cond.instantiable cq_8.1 cq_8.2.2 ∈ tb0 := (tb1 235 rfl rfl)
theorem un_8 : ∀ a, a < cq_8.2.2 → ∀ b, b < cq_8.2.2 → a ≠ b → (cq_8.2.1 a).2.1 ≠ (cq_8.2.1 b).2.1 := by decide +kernel
theorem uw_9 : ∀ w ∈ u_ws cq_9.1 cq_9.2.1 cq_9.2.2, w ∈ tb0 := tbl [455, 457, 459, 461, 463, 465, 467] (by decide +kernel)
theorem ut_9 : ∀ k, k < cq_9.2.2 → (parseFieldDescriptor (cq_9.2.1 k).2.2.1 = some (ty0 (9 : Nat) k) ∧ ty0 (9 : Nat) k ≠ .float ∧ ty0 (9 : Nat) k ≠ .double) := by decide +kernel
theorem ins_9 : Cond.instantiable cq_9.1 cq_9.2.2 ∈ tb0 := (tb2 113 rfl rfl)
theorem un_9 : ∀ a, a < cq_9.2.2 → ∀ b, b < cq_9.2.2 → a ≠ b → (cq_9.2.1 a).2.1 ≠ (cq_9.2.1 b).2.1 := by decide +kernel
theorem uw_10 : ∀ w ∈ u_ws cq_10.1 cq_10.2.1 cq_10.2.2, w ∈ tb0 := tbl [488, 490, 492, 494, 496] (by decide +kernel)
theorem ut_10 : ∀ k, k < cq_10.2.2 → (parseFieldDescriptor (cq_10.2.1 k).2.2.1 = some (ty0 (10 : Nat) k) ∧ ty0 (10 : Nat) k ≠ .float ∧ ty0 (10 : Nat) k ≠ .double) := by decide +kernel
theorem ins_10 : Cond.instantiable cq_10.1 cq_10.2.2 ∈ tb0 := (tb2 147 rfl rfl)
theorem un_10 : ∀ a, a < cq_10.2.2 → ∀ b, b < cq_10.2.2 → a ≠ b → (cq_10.2.1 a).2.1 ≠ (cq_10.2.1 b).2.1 := by decide +kernel
theorem uw_11 : ∀ w ∈ u_ws cq_11.1 cq_11.2.1 cq_11.2.2, w ∈ tb0 := tbl [1133, 1135, 1137, 1139, 1141, 1143, 1145, 1147, 1149, 1151, 1153, 1155, 1157, 1159, 1161, 1163, 1165, 1167, 1169, 1171, 1173, 1175, 1177, 1179, 1181, 1183, 1185, 1187, 1189, 1191, 1193, 1195, 1197, 1199, 1201, 1203, 1205, 1207, 1209, 1211, 1213, 1215, 1217, 1219, 1221, 1223, 1225, 1227, 1229, 1231, 1233, 1235, 1237, 1239, 1241, 1243, 1245, 1247, 1249, 1251, 1253, 1255, 1257, 1259, 1261, 1263, 1265, 1267, 1269, 1271, 1273, 1275, 1277, 1279, 1281, 1283] (by decide +kernel)
theorem ut_11 : ∀ k, k < cq_11.2.2 → (parseFieldDescriptor (cq_11.2.1 k).2.2.1 = some (ty0 (11 : Nat) k) ∧ ty0 (11 : Nat) k ≠ .float ∧ ty0 (11 : Nat) k ≠ .double) := by decide +kernel
theorem ins_11 : Cond.instantiable cq_11.1 cq_11.2.2 ∈ tb0 := (tb5 8 rfl rfl)
theorem un_11 : ∀ a, a < cq_11.2.2 → ∀ b, b < cq_11.2.2 → a ≠ b → (cq_11.2.1 a).2.1 ≠ (cq_11.2.1 b).2.1 := by decide +kernel
