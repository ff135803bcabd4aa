/-- the words that every method takes along -/
def xT : List Cond := [.selects "java/lang/StringBuilder" ⟨"java/lang/AbstractStringBuilder", "ensureCapacityInternal", "(I)V"⟩ ⟨"java/lang/AbstractStringBuilder", "ensureCapacityInternal", "(I)V"⟩, .selects "java/lang/StringBuilder" ⟨"java/lang/AbstractStringBuilder", "newCapacity", "(I)I"⟩ ⟨"java/lang/AbstractStringBuilder", "newCapacity", "(I)I"⟩]
def gT : List Cond := lw_tbl.filter goodWord ++ xT
theorem xT_good : ∀ w ∈ xT, goodWord w = true := List.forall_mem_cons.mpr ⟨rfl, List.forall_mem_cons.mpr ⟨rfl, fun _ h => absurd h List.not_mem_nil⟩⟩
theorem gT_good : ∀ w ∈ gT, goodWord w = true := fun w h => (List.mem_append.mp h).elim (fun h => (List.mem_filter.mp h).2) (xT_good w)
theorem in_7 {w : Cond} (h : w ∈ xT) (_ : goodWord w = true) : w ∈ gT := List.mem_append_right _ h
theorem in_0 {w : Cond} (h : w ∈ k2_sels lw_privs) (hg : goodWord w = true) : w ∈ gT := List.mem_append_left _ (List.mem_filter.mpr ⟨List.mem_append_left _ h, hg⟩)
theorem at_1 {w : Cond} (h : w ∈ tables_1_1) : w ∈ lw_tbl := List.mem_append_right (k2_sels lw_privs) (show w ∈ tables_1 from List.mem_append_left _ h)
theorem in_1 {w : Cond} (h : w ∈ tables_1_1) (hg : goodWord w = true) : w ∈ gT := List.mem_append_left _ (List.mem_filter.mpr ⟨at_1 h, hg⟩)
theorem at_2 {w : Cond} (h : w ∈ tables_1_2) : w ∈ lw_tbl := List.mem_append_right (k2_sels lw_privs) (show w ∈ tables_1 from List.mem_append_right _ (List.mem_append_left _ h))
theorem in_2 {w : Cond} (h : w ∈ tables_1_2) (hg : goodWord w = true) : w ∈ gT := List.mem_append_left _ (List.mem_filter.mpr ⟨at_2 h, hg⟩)
theorem at_3 {w : Cond} (h : w ∈ tables_1_3) : w ∈ lw_tbl := List.mem_append_right (k2_sels lw_privs) (show w ∈ tables_1 from List.mem_append_right _ (List.mem_append_right _ (List.mem_append_left _ h)))
theorem in_3 {w : Cond} (h : w ∈ tables_1_3) (hg : goodWord w = true) : w ∈ gT := List.mem_append_left _ (List.mem_filter.mpr ⟨at_3 h, hg⟩)
theorem at_4 {w : Cond} (h : w ∈ tables_1_4) : w ∈ lw_tbl := List.mem_append_right (k2_sels lw_privs) (show w ∈ tables_1 from List.mem_append_right _ (List.mem_append_right _ (List.mem_append_right _ (List.mem_append_left _ h))))
theorem in_4 {w : Cond} (h : w ∈ tables_1_4) (hg : goodWord w = true) : w ∈ gT := List.mem_append_left _ (List.mem_filter.mpr ⟨at_4 h, hg⟩)
theorem at_5 {w : Cond} (h : w ∈ tables_1_5) : w ∈ lw_tbl := List.mem_append_right (k2_sels lw_privs) (show w ∈ tables_1 from List.mem_append_right _ (List.mem_append_right _ (List.mem_append_right _ (List.mem_append_right _ (List.mem_append_left _ h)))))
theorem in_5 {w : Cond} (h : w ∈ tables_1_5) (hg : goodWord w = true) : w ∈ gT := List.mem_append_left _ (List.mem_filter.mpr ⟨at_5 h, hg⟩)
theorem at_6 {w : Cond} (h : w ∈ tables_1_6) : w ∈ lw_tbl := List.mem_append_right (k2_sels lw_privs) (show w ∈ tables_1 from List.mem_append_right _ (List.mem_append_right _ (List.mem_append_right _ (List.mem_append_right _ (List.mem_append_right _ (h))))))
theorem in_6 {w : Cond} (h : w ∈ tables_1_6) (hg : goodWord w = true) : w ∈ gT := List.mem_append_left _ (List.mem_filter.mpr ⟨at_6 h, hg⟩)
def R_X : String := "RegistryLog"
def F_X : u_T := fun k => match k with
  | 0 => ("RegistryLog", "text", "Ljava/lang/StringBuilder;", true)
  | 1 => ("RegistryLog", "log", "LRegistryLog$Ledger;", true)
  | 2 => ("RegistryLog", "mirrors", "[LRegistryLog$Ledger;", true)
  | 3 => ("RegistryLog", "noMirror", "LRegistryLog$Ledger;", true)
  | 4 => ("RegistryLog", "latestProof", "LRegistryLog$Numbers;", true)
  | _ => ("RegistryLog", "hand", "LRegistryLog$Numbers;", true)
def t_X : Nat → FieldType := fun k => match k with
  | 0 => .object "java/lang/StringBuilder"
  | 1 => .object "RegistryLog$Ledger"
  | 2 => .array (.object "RegistryLog$Ledger")
  | 3 => .object "RegistryLog$Ledger"
  | 4 => .object "RegistryLog$Numbers"
  | _ => .object "RegistryLog$Numbers"
theorem n_X : ∀ a, a < 6 → ∀ b, b < 6 → a ≠ b → (F_X a).2.1 ≠ (F_X b).2.1 := by decide +kernel
theorem t_X_ok : ∀ k, k < 6 → parseFieldDescriptor (F_X k).2.2.1 = some (t_X k) := by decide +kernel
theorem i_X : ∀ w ∈ u_ws R_X F_X 6, w ∈ gT := List.forall_mem_cons.mpr ⟨(in_3 (List.mem_of_getElem? (i := 15) rfl) rfl), List.forall_mem_cons.mpr ⟨(in_3 (List.mem_of_getElem? (i := 17) rfl) rfl), List.forall_mem_cons.mpr ⟨(in_3 (List.mem_of_getElem? (i := 19) rfl) rfl), List.forall_mem_cons.mpr ⟨(in_3 (List.mem_of_getElem? (i := 21) rfl) rfl), List.forall_mem_cons.mpr ⟨(in_3 (List.mem_of_getElem? (i := 23) rfl) rfl), List.forall_mem_cons.mpr ⟨(in_3 (List.mem_of_getElem? (i := 25) rfl) rfl), (fun _ h => absurd h List.not_mem_nil)⟩⟩⟩⟩⟩⟩
def R_L : String := "RegistryLog$Ledger"
def F_L : u_T := fun k => match k with
  | 0 => ("RegistryLog$Ledger", "written", "[LRegistryLog$Row;", true)
  | 1 => ("RegistryLog$Ledger", "noRow", "LRegistryLog$Row;", true)
  | _ => ("RegistryLog$Ledger", "count", "I", false)
def t_L : Nat → FieldType := fun k => match k with
  | 0 => .array (.object "RegistryLog$Row")
  | 1 => .object "RegistryLog$Row"
  | _ => .int
theorem n_L : ∀ a, a < 3 → ∀ b, b < 3 → a ≠ b → (F_L a).2.1 ≠ (F_L b).2.1 := by decide +kernel
theorem t_L_ok : ∀ k, k < 3 → parseFieldDescriptor (F_L k).2.2.1 = some (t_L k) := by decide +kernel
theorem i_L : ∀ w ∈ u_ws R_L F_L 3, w ∈ gT := List.forall_mem_cons.mpr ⟨(in_2 (List.mem_of_getElem? (i := 224) rfl) rfl), List.forall_mem_cons.mpr ⟨(in_2 (List.mem_of_getElem? (i := 226) rfl) rfl), List.forall_mem_cons.mpr ⟨(in_2 (List.mem_of_getElem? (i := 228) rfl) rfl), (fun _ h => absurd h List.not_mem_nil)⟩⟩⟩
def R_N : String := "RegistryLog$Name"
def F_N : u_T := fun k => match k with
  | 0 => ("RegistryLog$Name", "typed", "Ljava/lang/String;", true)
  | _ => ("RegistryLog$Name", "folded", "Ljava/lang/String;", true)
def t_N : Nat → FieldType := fun k => match k with
  | 0 => .object "java/lang/String"
  | _ => .object "java/lang/String"
theorem n_N : ∀ a, a < 2 → ∀ b, b < 2 → a ≠ b → (F_N a).2.1 ≠ (F_N b).2.1 := by decide +kernel
theorem t_N_ok : ∀ k, k < 2 → parseFieldDescriptor (F_N k).2.2.1 = some (t_N k) := by decide +kernel
theorem i_N : ∀ w ∈ u_ws R_N F_N 2, w ∈ gT := List.forall_mem_cons.mpr ⟨(in_2 (List.mem_of_getElem? (i := 160) rfl) rfl), List.forall_mem_cons.mpr ⟨(in_2 (List.mem_of_getElem? (i := 162) rfl) rfl), (fun _ h => absurd h List.not_mem_nil)⟩⟩
def R_U : String := "RegistryLog$Numbers"
def F_U : u_T := fun k => match k with
  | 0 => ("RegistryLog$Numbers", "values", "[J", true)
  | 1 => ("RegistryLog$Numbers", "count", "I", false)
  | _ => ("RegistryLog$Numbers", "asked", "I", false)
def t_U : Nat → FieldType := fun k => match k with
  | 0 => .array .long
  | 1 => .int
  | _ => .int
theorem n_U : ∀ a, a < 3 → ∀ b, b < 3 → a ≠ b → (F_U a).2.1 ≠ (F_U b).2.1 := by decide +kernel
theorem t_U_ok : ∀ k, k < 3 → parseFieldDescriptor (F_U k).2.2.1 = some (t_U k) := by decide +kernel
theorem i_U : ∀ w ∈ u_ws R_U F_U 3, w ∈ gT := List.forall_mem_cons.mpr ⟨(in_3 (List.mem_of_getElem? (i := 1) rfl) rfl), List.forall_mem_cons.mpr ⟨(in_3 (List.mem_of_getElem? (i := 3) rfl) rfl), List.forall_mem_cons.mpr ⟨(in_3 (List.mem_of_getElem? (i := 5) rfl) rfl), (fun _ h => absurd h List.not_mem_nil)⟩⟩⟩
def R_R : String := "RegistryLog$Row"
def F_R : u_T := fun k => match k with
  | 0 => ("RegistryLog$Row", "kind", "I", true)
  | 1 => ("RegistryLog$Row", "person", "I", true)
  | 2 => ("RegistryLog$Row", "name", "LRegistryLog$Name;", true)
  | 3 => ("RegistryLog$Row", "nameAfter", "LRegistryLog$Name;", true)
  | 4 => ("RegistryLog$Row", "second", "I", true)
  | 5 => ("RegistryLog$Row", "third", "I", true)
  | 6 => ("RegistryLog$Row", "origin", "I", true)
  | _ => ("RegistryLog$Row", "digest", "J", true)
def t_R : Nat → FieldType := fun k => match k with
  | 0 => .int
  | 1 => .int
  | 2 => .object "RegistryLog$Name"
  | 3 => .object "RegistryLog$Name"
  | 4 => .int
  | 5 => .int
  | 6 => .int
  | _ => .long
theorem n_R : ∀ a, a < 8 → ∀ b, b < 8 → a ≠ b → (F_R a).2.1 ≠ (F_R b).2.1 := by decide +kernel
theorem t_R_ok : ∀ k, k < 8 → parseFieldDescriptor (F_R k).2.2.1 = some (t_R k) := by decide +kernel
theorem i_R : ∀ w ∈ u_ws R_R F_R 8, w ∈ gT := List.forall_mem_cons.mpr ⟨(in_2 (List.mem_of_getElem? (i := 203) rfl) rfl), List.forall_mem_cons.mpr ⟨(in_2 (List.mem_of_getElem? (i := 205) rfl) rfl), List.forall_mem_cons.mpr ⟨(in_2 (List.mem_of_getElem? (i := 207) rfl) rfl), List.forall_mem_cons.mpr ⟨(in_2 (List.mem_of_getElem? (i := 209) rfl) rfl), List.forall_mem_cons.mpr ⟨(in_2 (List.mem_of_getElem? (i := 211) rfl) rfl), List.forall_mem_cons.mpr ⟨(in_2 (List.mem_of_getElem? (i := 213) rfl) rfl), List.forall_mem_cons.mpr ⟨(in_2 (List.mem_of_getElem? (i := 215) rfl) rfl), List.forall_mem_cons.mpr ⟨(in_2 (List.mem_of_getElem? (i := 217) rfl) rfl), (fun _ h => absurd h List.not_mem_nil)⟩⟩⟩⟩⟩⟩⟩⟩
def R_H : String := "RegistryLog$TwoHeads"
def F_H : u_T := fun k => match k with
  | 0 => ("RegistryLog$TwoHeads", "shorter", "J", true)
  | _ => ("RegistryLog$TwoHeads", "longer", "J", true)
def t_H : Nat → FieldType := fun k => match k with
  | 0 => .long
  | _ => .long
theorem n_H : ∀ a, a < 2 → ∀ b, b < 2 → a ≠ b → (F_H a).2.1 ≠ (F_H b).2.1 := by decide +kernel
theorem t_H_ok : ∀ k, k < 2 → parseFieldDescriptor (F_H k).2.2.1 = some (t_H k) := by decide +kernel
theorem i_H : ∀ w ∈ u_ws R_H F_H 2, w ∈ gT := List.forall_mem_cons.mpr ⟨(in_3 (List.mem_of_getElem? (i := 146) rfl) rfl), List.forall_mem_cons.mpr ⟨(in_3 (List.mem_of_getElem? (i := 148) rfl) rfl), (fun _ h => absurd h List.not_mem_nil)⟩⟩
def R_S : String := "java/lang/String"
def F_S : u_T := fun k => match k with
  | 0 => ("java/lang/String", "value", "[B", true)
  | 1 => ("java/lang/String", "coder", "B", true)
  | 2 => ("java/lang/String", "hash", "I", false)
  | _ => ("java/lang/String", "hashIsZero", "Z", false)
def t_S : Nat → FieldType := fun k => match k with
  | 0 => .array .byte
  | 1 => .byte
  | 2 => .int
  | _ => .boolean
theorem n_S : ∀ a, a < 4 → ∀ b, b < 4 → a ≠ b → (F_S a).2.1 ≠ (F_S b).2.1 := by decide +kernel
theorem t_S_ok : ∀ k, k < 4 → parseFieldDescriptor (F_S k).2.2.1 = some (t_S k) := by decide +kernel
theorem i_S : ∀ w ∈ u_ws R_S F_S 4, w ∈ gT := List.forall_mem_cons.mpr ⟨(in_2 (List.mem_of_getElem? (i := 148) rfl) rfl), List.forall_mem_cons.mpr ⟨(in_2 (List.mem_of_getElem? (i := 150) rfl) rfl), List.forall_mem_cons.mpr ⟨(in_2 (List.mem_of_getElem? (i := 152) rfl) rfl), List.forall_mem_cons.mpr ⟨(in_2 (List.mem_of_getElem? (i := 154) rfl) rfl), (fun _ h => absurd h List.not_mem_nil)⟩⟩⟩⟩
def R_B : String := "java/lang/StringBuilder"
def F_B : u_T := fun k => match k with
  | 0 => ("java/lang/AbstractStringBuilder", "value", "[B", false)
  | 1 => ("java/lang/AbstractStringBuilder", "coder", "B", false)
  | 2 => ("java/lang/AbstractStringBuilder", "maybeLatin1", "Z", false)
  | _ => ("java/lang/AbstractStringBuilder", "count", "I", false)
def t_B : Nat → FieldType := fun k => match k with
  | 0 => .array .byte
  | 1 => .byte
  | 2 => .boolean
  | _ => .int
theorem n_B : ∀ a, a < 4 → ∀ b, b < 4 → a ≠ b → (F_B a).2.1 ≠ (F_B b).2.1 := by decide +kernel
theorem t_B_ok : ∀ k, k < 4 → parseFieldDescriptor (F_B k).2.2.1 = some (t_B k) := by decide +kernel
theorem i_B : ∀ w ∈ u_ws R_B F_B 4, w ∈ gT := List.forall_mem_cons.mpr ⟨(in_1 (List.mem_of_getElem? (i := 57) rfl) rfl), List.forall_mem_cons.mpr ⟨(in_1 (List.mem_of_getElem? (i := 59) rfl) rfl), List.forall_mem_cons.mpr ⟨(in_1 (List.mem_of_getElem? (i := 61) rfl) rfl), List.forall_mem_cons.mpr ⟨(in_1 (List.mem_of_getElem? (i := 63) rfl) rfl), (fun _ h => absurd h List.not_mem_nil)⟩⟩⟩⟩
def R_M : String := "RegistryLogModel"
def F_M : u_T := fun k => match k with
  | 0 => ("RegistryLogModel", "code", "I", false)
  | 1 => ("RegistryLogModel", "text", "[I", true)
  | 2 => ("RegistryLogModel", "typed", "I", false)
  | 3 => ("RegistryLogModel", "kind", "[I", true)
  | 4 => ("RegistryLogModel", "person", "[I", true)
  | 5 => ("RegistryLogModel", "first", "[I", true)
  | 6 => ("RegistryLogModel", "flag", "[I", true)
  | 7 => ("RegistryLogModel", "size", "[I", true)
  | 8 => ("RegistryLogModel", "otherSize", "[I", true)
  | 9 => ("RegistryLogModel", "letters", "[I", true)
  | 10 => ("RegistryLogModel", "otherLetters", "[I", true)
  | 11 => ("RegistryLogModel", "sums", "[I", true)
  | 12 => ("RegistryLogModel", "copied", "[I", true)
  | 13 => ("RegistryLogModel", "proof", "[J", true)
  | 14 => ("RegistryLogModel", "hand", "[J", true)
  | 15 => ("RegistryLogModel", "proofSize", "I", false)
  | 16 => ("RegistryLogModel", "handSize", "I", false)
  | 17 => ("RegistryLogModel", "nameLetters", "[I", true)
  | 18 => ("RegistryLogModel", "nameSize", "[I", true)
  | 19 => ("RegistryLogModel", "nameState", "[I", true)
  | 20 => ("RegistryLogModel", "nameOf", "[I", true)
  | 21 => ("RegistryLogModel", "founders", "[I", true)
  | 22 => ("RegistryLogModel", "rights", "[I", true)
  | 23 => ("RegistryLogModel", "versionOf", "[I", true)
  | 24 => ("RegistryLogModel", "versionNumber", "[I", true)
  | 25 => ("RegistryLogModel", "versionSum", "[I", true)
  | 26 => ("RegistryLogModel", "versionYanked", "[I", true)
  | 27 => ("RegistryLogModel", "names", "I", false)
  | 28 => ("RegistryLogModel", "owners", "I", false)
  | 29 => ("RegistryLogModel", "versions", "I", false)
  | 30 => ("RegistryLogModel", "one", "[I", true)
  | 31 => ("RegistryLogModel", "two", "[I", true)
  | 32 => ("RegistryLogModel", "oneSize", "I", false)
  | 33 => ("RegistryLogModel", "twoSize", "I", false)
  | 34 => ("RegistryLogModel", "foldA", "[I", true)
  | 35 => ("RegistryLogModel", "foldB", "[I", true)
  | 36 => ("RegistryLogModel", "tree", "[J", true)
  | 37 => ("RegistryLogModel", "parts", "[J", true)
  | 38 => ("RegistryLogModel", "otherFrom", "[I", true)
  | 39 => ("RegistryLogModel", "otherMany", "[I", true)
  | 40 => ("RegistryLogModel", "isSecond", "[Z", true)
  | 41 => ("RegistryLogModel", "steps", "I", false)
  | 42 => ("RegistryLogModel", "restFrom", "I", false)
  | 43 => ("RegistryLogModel", "restMany", "I", false)
  | 44 => ("RegistryLogModel", "restIn", "I", false)
  | _ => ("RegistryLogModel", "whole", "Z", false)
def t_M : Nat → FieldType := fun k => match k with
  | 0 => .int
  | 1 => .array .int
  | 2 => .int
  | 3 => .array .int
  | 4 => .array .int
  | 5 => .array .int
  | 6 => .array .int
  | 7 => .array .int
  | 8 => .array .int
  | 9 => .array .int
  | 10 => .array .int
  | 11 => .array .int
  | 12 => .array .int
  | 13 => .array .long
  | 14 => .array .long
  | 15 => .int
  | 16 => .int
  | 17 => .array .int
  | 18 => .array .int
  | 19 => .array .int
  | 20 => .array .int
  | 21 => .array .int
  | 22 => .array .int
  | 23 => .array .int
  | 24 => .array .int
  | 25 => .array .int
  | 26 => .array .int
  | 27 => .int
  | 28 => .int
  | 29 => .int
  | 30 => .array .int
  | 31 => .array .int
  | 32 => .int
  | 33 => .int
  | 34 => .array .int
  | 35 => .array .int
  | 36 => .array .long
  | 37 => .array .long
  | 38 => .array .int
  | 39 => .array .int
  | 40 => .array .boolean
  | 41 => .int
  | 42 => .int
  | 43 => .int
  | 44 => .int
  | _ => .boolean
theorem n_M : ∀ a, a < 46 → ∀ b, b < 46 → a ≠ b → (F_M a).2.1 ≠ (F_M b).2.1 := by decide +kernel
theorem t_M_ok : ∀ k, k < 46 → parseFieldDescriptor (F_M k).2.2.1 = some (t_M k) := by decide +kernel
theorem i_M : ∀ w ∈ u_ws R_M F_M 46, w ∈ gT := List.forall_mem_cons.mpr ⟨(in_5 (List.mem_of_getElem? (i := 15) rfl) rfl), List.forall_mem_cons.mpr ⟨(in_5 (List.mem_of_getElem? (i := 17) rfl) rfl), List.forall_mem_cons.mpr ⟨(in_5 (List.mem_of_getElem? (i := 19) rfl) rfl), List.forall_mem_cons.mpr ⟨(in_5 (List.mem_of_getElem? (i := 21) rfl) rfl), List.forall_mem_cons.mpr ⟨(in_5 (List.mem_of_getElem? (i := 23) rfl) rfl), List.forall_mem_cons.mpr ⟨(in_5 (List.mem_of_getElem? (i := 25) rfl) rfl), List.forall_mem_cons.mpr ⟨(in_5 (List.mem_of_getElem? (i := 27) rfl) rfl), List.forall_mem_cons.mpr ⟨(in_5 (List.mem_of_getElem? (i := 29) rfl) rfl), List.forall_mem_cons.mpr ⟨(in_5 (List.mem_of_getElem? (i := 31) rfl) rfl), List.forall_mem_cons.mpr ⟨(in_5 (List.mem_of_getElem? (i := 33) rfl) rfl), List.forall_mem_cons.mpr ⟨(in_5 (List.mem_of_getElem? (i := 35) rfl) rfl), List.forall_mem_cons.mpr ⟨(in_5 (List.mem_of_getElem? (i := 37) rfl) rfl), List.forall_mem_cons.mpr ⟨(in_5 (List.mem_of_getElem? (i := 39) rfl) rfl), List.forall_mem_cons.mpr ⟨(in_5 (List.mem_of_getElem? (i := 41) rfl) rfl), List.forall_mem_cons.mpr ⟨(in_5 (List.mem_of_getElem? (i := 43) rfl) rfl), List.forall_mem_cons.mpr ⟨(in_5 (List.mem_of_getElem? (i := 45) rfl) rfl), List.forall_mem_cons.mpr ⟨(in_5 (List.mem_of_getElem? (i := 47) rfl) rfl), List.forall_mem_cons.mpr ⟨(in_5 (List.mem_of_getElem? (i := 49) rfl) rfl), List.forall_mem_cons.mpr ⟨(in_5 (List.mem_of_getElem? (i := 51) rfl) rfl), List.forall_mem_cons.mpr ⟨(in_5 (List.mem_of_getElem? (i := 53) rfl) rfl), List.forall_mem_cons.mpr ⟨(in_5 (List.mem_of_getElem? (i := 55) rfl) rfl), List.forall_mem_cons.mpr ⟨(in_5 (List.mem_of_getElem? (i := 57) rfl) rfl), List.forall_mem_cons.mpr ⟨(in_5 (List.mem_of_getElem? (i := 59) rfl) rfl), List.forall_mem_cons.mpr ⟨(in_5 (List.mem_of_getElem? (i := 61) rfl) rfl), List.forall_mem_cons.mpr ⟨(in_5 (List.mem_of_getElem? (i := 63) rfl) rfl), List.forall_mem_cons.mpr ⟨(in_5 (List.mem_of_getElem? (i := 65) rfl) rfl), List.forall_mem_cons.mpr ⟨(in_5 (List.mem_of_getElem? (i := 67) rfl) rfl), List.forall_mem_cons.mpr ⟨(in_5 (List.mem_of_getElem? (i := 69) rfl) rfl), List.forall_mem_cons.mpr ⟨(in_5 (List.mem_of_getElem? (i := 71) rfl) rfl), List.forall_mem_cons.mpr ⟨(in_5 (List.mem_of_getElem? (i := 73) rfl) rfl), List.forall_mem_cons.mpr ⟨(in_5 (List.mem_of_getElem? (i := 75) rfl) rfl), List.forall_mem_cons.mpr ⟨(in_5 (List.mem_of_getElem? (i := 77) rfl) rfl), List.forall_mem_cons.mpr ⟨(in_5 (List.mem_of_getElem? (i := 79) rfl) rfl), List.forall_mem_cons.mpr ⟨(in_5 (List.mem_of_getElem? (i := 81) rfl) rfl), List.forall_mem_cons.mpr ⟨(in_5 (List.mem_of_getElem? (i := 83) rfl) rfl), List.forall_mem_cons.mpr ⟨(in_5 (List.mem_of_getElem? (i := 85) rfl) rfl), List.forall_mem_cons.mpr ⟨(in_5 (List.mem_of_getElem? (i := 87) rfl) rfl), List.forall_mem_cons.mpr ⟨(in_5 (List.mem_of_getElem? (i := 89) rfl) rfl), List.forall_mem_cons.mpr ⟨(in_5 (List.mem_of_getElem? (i := 91) rfl) rfl), List.forall_mem_cons.mpr ⟨(in_5 (List.mem_of_getElem? (i := 93) rfl) rfl), List.forall_mem_cons.mpr ⟨(in_5 (List.mem_of_getElem? (i := 95) rfl) rfl), List.forall_mem_cons.mpr ⟨(in_5 (List.mem_of_getElem? (i := 97) rfl) rfl), List.forall_mem_cons.mpr ⟨(in_5 (List.mem_of_getElem? (i := 99) rfl) rfl), List.forall_mem_cons.mpr ⟨(in_5 (List.mem_of_getElem? (i := 101) rfl) rfl), List.forall_mem_cons.mpr ⟨(in_5 (List.mem_of_getElem? (i := 103) rfl) rfl), List.forall_mem_cons.mpr ⟨(in_5 (List.mem_of_getElem? (i := 105) rfl) rfl), (fun _ h => absurd h List.not_mem_nil)⟩⟩⟩⟩⟩⟩⟩⟩⟩⟩⟩⟩⟩⟩⟩⟩⟩⟩⟩⟩⟩⟩⟩⟩⟩⟩⟩⟩⟩⟩⟩⟩⟩⟩⟩⟩⟩⟩⟩⟩⟩⟩⟩⟩⟩⟩
abbrev cls_ : List vw_C := [(R_X, F_X, 6), (R_L, F_L, 3), (R_N, F_N, 2), (R_U, F_U, 3), (R_R, F_R, 8), (R_H, F_H, 2), (R_S, F_S, 4), (R_B, F_B, 4), (R_M, F_M, 46)]

