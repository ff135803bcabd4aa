section
-- ===== PART A: goes FIRST, ahead of the names: the tables' words, and 'selects' of the private methods out of them =====
/-- a private method of a class that the tables say can be made, by its rows of tables_1 -/
def lw_okq (q : MethodName × Nat) : Prop := (q.1.cls ≠ "java/lang/invoke/MethodHandle" ∧ q.1.cls ≠ "java/lang/invoke/VarHandle") ∧ Cond.instantiable q.1.cls q.2 ∈ tables_1 ∧ Cond.privateMethod q.1 ∈ tables_1 ∧ Cond.instanceMethod q.1 ∈ tables_1
theorem lw_p0 : lw_okq (⟨"java/lang/Throwable", "fillInStackTrace", "(I)Ljava/lang/Throwable;"⟩, 6) := ⟨⟨by decide +kernel, by decide +kernel⟩, List.mem_of_getElem? (i := 281) (by decide +kernel), List.mem_of_getElem? (i := 279) (by decide +kernel), List.mem_of_getElem? (i := 280) (by decide +kernel)⟩
theorem lw_p1 : lw_okq (⟨"RegistryLog", "mirrorOf", "(I)LRegistryLog$Ledger;"⟩, 6) := ⟨⟨by decide +kernel, by decide +kernel⟩, List.mem_of_getElem? (i := 27) (by decide +kernel), List.mem_of_getElem? (i := 640) (by decide +kernel), List.mem_of_getElem? (i := 641) (by decide +kernel)⟩
theorem lw_p2 : lw_okq (⟨"RegistryLog", "ledgerOf", "(I)LRegistryLog$Ledger;"⟩, 6) := ⟨⟨by decide +kernel, by decide +kernel⟩, List.mem_of_getElem? (i := 27) (by decide +kernel), List.mem_of_getElem? (i := 675) (by decide +kernel), List.mem_of_getElem? (i := 676) (by decide +kernel)⟩
theorem lw_p3 : lw_okq (⟨"RegistryLog", "takeName", "()LRegistryLog$Name;"⟩, 6) := ⟨⟨by decide +kernel, by decide +kernel⟩, List.mem_of_getElem? (i := 27) (by decide +kernel), List.mem_of_getElem? (i := 679) (by decide +kernel), List.mem_of_getElem? (i := 680) (by decide +kernel)⟩
theorem lw_p4 : lw_okq (⟨"RegistryLog", "takeText", "()Ljava/lang/String;"⟩, 6) := ⟨⟨by decide +kernel, by decide +kernel⟩, List.mem_of_getElem? (i := 27) (by decide +kernel), List.mem_of_getElem? (i := 684) (by decide +kernel), List.mem_of_getElem? (i := 685) (by decide +kernel)⟩
theorem lw_p5 : lw_okq (⟨"RegistryLog", "write", "(LRegistryLog$Row;)I"⟩, 6) := ⟨⟨by decide +kernel, by decide +kernel⟩, List.mem_of_getElem? (i := 27) (by decide +kernel), List.mem_of_getElem? (i := 825) (by decide +kernel), List.mem_of_getElem? (i := 826) (by decide +kernel)⟩
theorem lw_p6 : lw_okq (⟨"RegistryLogModel", "takes", "(Z)Z"⟩, 46) := ⟨⟨by decide +kernel, by decide +kernel⟩, List.mem_of_getElem? (i := 924) (by decide +kernel), List.mem_of_getElem? (i := 1083) (by decide +kernel), List.mem_of_getElem? (i := 1084) (by decide +kernel)⟩
theorem lw_p7 : lw_okq (⟨"RegistryLogModel", "isName", "(II)Z"⟩, 46) := ⟨⟨by decide +kernel, by decide +kernel⟩, List.mem_of_getElem? (i := 924) (by decide +kernel), List.mem_of_getElem? (i := 1087) (by decide +kernel), List.mem_of_getElem? (i := 1088) (by decide +kernel)⟩
theorem lw_p8 : lw_okq (⟨"RegistryLogModel", "goThrough", "(I)V"⟩, 46) := ⟨⟨by decide +kernel, by decide +kernel⟩, List.mem_of_getElem? (i := 924) (by decide +kernel), List.mem_of_getElem? (i := 1100) (by decide +kernel), List.mem_of_getElem? (i := 1101) (by decide +kernel)⟩
theorem lw_p9 : lw_okq (⟨"RegistryLogModel", "met", "([III)I"⟩, 46) := ⟨⟨by decide +kernel, by decide +kernel⟩, List.mem_of_getElem? (i := 924) (by decide +kernel), List.mem_of_getElem? (i := 1104) (by decide +kernel), List.mem_of_getElem? (i := 1105) (by decide +kernel)⟩
theorem lw_p10 : lw_okq (⟨"RegistryLogModel", "meet", "([IIII)I"⟩, 46) := ⟨⟨by decide +kernel, by decide +kernel⟩, List.mem_of_getElem? (i := 924) (by decide +kernel), List.mem_of_getElem? (i := 1108) (by decide +kernel), List.mem_of_getElem? (i := 1109) (by decide +kernel)⟩
theorem lw_p11 : lw_okq (⟨"RegistryLogModel", "versionAt", "(II)I"⟩, 46) := ⟨⟨by decide +kernel, by decide +kernel⟩, List.mem_of_getElem? (i := 924) (by decide +kernel), List.mem_of_getElem? (i := 1112) (by decide +kernel), List.mem_of_getElem? (i := 1113) (by decide +kernel)⟩
theorem lw_p12 : lw_okq (⟨"RegistryLogModel", "isFree", "([III)Z"⟩, 46) := ⟨⟨by decide +kernel, by decide +kernel⟩, List.mem_of_getElem? (i := 924) (by decide +kernel), List.mem_of_getElem? (i := 1116) (by decide +kernel), List.mem_of_getElem? (i := 1117) (by decide +kernel)⟩
theorem lw_p13 : lw_okq (⟨"RegistryLogModel", "isNear", "([III)Z"⟩, 46) := ⟨⟨by decide +kernel, by decide +kernel⟩, List.mem_of_getElem? (i := 924) (by decide +kernel), List.mem_of_getElem? (i := 1120) (by decide +kernel), List.mem_of_getElem? (i := 1121) (by decide +kernel)⟩
theorem lw_p14 : lw_okq (⟨"RegistryLogModel", "hasRight", "(II)Z"⟩, 46) := ⟨⟨by decide +kernel, by decide +kernel⟩, List.mem_of_getElem? (i := 924) (by decide +kernel), List.mem_of_getElem? (i := 1127) (by decide +kernel), List.mem_of_getElem? (i := 1128) (by decide +kernel)⟩
theorem lw_p15 : lw_okq (⟨"RegistryLogModel", "isKnown", "(I)Z"⟩, 46) := ⟨⟨by decide +kernel, by decide +kernel⟩, List.mem_of_getElem? (i := 924) (by decide +kernel), List.mem_of_getElem? (i := 1131) (by decide +kernel), List.mem_of_getElem? (i := 1132) (by decide +kernel)⟩
def lw_privs_1 : List (MethodName × Nat) := [(⟨"java/lang/Throwable", "fillInStackTrace", "(I)Ljava/lang/Throwable;"⟩, 6), (⟨"RegistryLog", "mirrorOf", "(I)LRegistryLog$Ledger;"⟩, 6), (⟨"RegistryLog", "ledgerOf", "(I)LRegistryLog$Ledger;"⟩, 6), (⟨"RegistryLog", "takeName", "()LRegistryLog$Name;"⟩, 6), (⟨"RegistryLog", "takeText", "()Ljava/lang/String;"⟩, 6), (⟨"RegistryLog", "write", "(LRegistryLog$Row;)I"⟩, 6), (⟨"RegistryLogModel", "takes", "(Z)Z"⟩, 46), (⟨"RegistryLogModel", "isName", "(II)Z"⟩, 46), (⟨"RegistryLogModel", "goThrough", "(I)V"⟩, 46), (⟨"RegistryLogModel", "met", "([III)I"⟩, 46), (⟨"RegistryLogModel", "meet", "([IIII)I"⟩, 46), (⟨"RegistryLogModel", "versionAt", "(II)I"⟩, 46), (⟨"RegistryLogModel", "isFree", "([III)Z"⟩, 46), (⟨"RegistryLogModel", "isNear", "([III)Z"⟩, 46), (⟨"RegistryLogModel", "hasRight", "(II)Z"⟩, 46), (⟨"RegistryLogModel", "isKnown", "(I)Z"⟩, 46)]
theorem lw_r1 : ∀ q ∈ lw_privs_1, lw_okq q := List.forall_mem_cons.mpr ⟨lw_p0, List.forall_mem_cons.mpr ⟨lw_p1, List.forall_mem_cons.mpr ⟨lw_p2, List.forall_mem_cons.mpr ⟨lw_p3, List.forall_mem_cons.mpr ⟨lw_p4, List.forall_mem_cons.mpr ⟨lw_p5, List.forall_mem_cons.mpr ⟨lw_p6, List.forall_mem_cons.mpr ⟨lw_p7, List.forall_mem_cons.mpr ⟨lw_p8, List.forall_mem_cons.mpr ⟨lw_p9, List.forall_mem_cons.mpr ⟨lw_p10, List.forall_mem_cons.mpr ⟨lw_p11, List.forall_mem_cons.mpr ⟨lw_p12, List.forall_mem_cons.mpr ⟨lw_p13, List.forall_mem_cons.mpr ⟨lw_p14, List.forall_mem_cons.mpr ⟨lw_p15, fun _ h => absurd h List.not_mem_nil⟩⟩⟩⟩⟩⟩⟩⟩⟩⟩⟩⟩⟩⟩⟩⟩
theorem lw_p16 : lw_okq (⟨"RegistryLogModel", "isFull", "()Z"⟩, 46) := ⟨⟨by decide +kernel, by decide +kernel⟩, List.mem_of_getElem? (i := 924) (by decide +kernel), List.mem_of_getElem? (i := 1135) (by decide +kernel), List.mem_of_getElem? (i := 1136) (by decide +kernel)⟩
theorem lw_p17 : lw_okq (⟨"RegistryLogModel", "refuses", "(ZZ)Z"⟩, 46) := ⟨⟨by decide +kernel, by decide +kernel⟩, List.mem_of_getElem? (i := 924) (by decide +kernel), List.mem_of_getElem? (i := 1139) (by decide +kernel), List.mem_of_getElem? (i := 1140) (by decide +kernel)⟩
theorem lw_p18 : lw_okq (⟨"RegistryLogModel", "write", "(IIII)I"⟩, 46) := ⟨⟨by decide +kernel, by decide +kernel⟩, List.mem_of_getElem? (i := 924) (by decide +kernel), List.mem_of_getElem? (i := 1143) (by decide +kernel), List.mem_of_getElem? (i := 1144) (by decide +kernel)⟩
theorem lw_p19 : lw_okq (⟨"RegistryLogModel", "isFounder", "(II)Z"⟩, 46) := ⟨⟨by decide +kernel, by decide +kernel⟩, List.mem_of_getElem? (i := 924) (by decide +kernel), List.mem_of_getElem? (i := 1155) (by decide +kernel), List.mem_of_getElem? (i := 1156) (by decide +kernel)⟩
theorem lw_p20 : lw_okq (⟨"RegistryLogModel", "isRow", "(I)Z"⟩, 46) := ⟨⟨by decide +kernel, by decide +kernel⟩, List.mem_of_getElem? (i := 924) (by decide +kernel), List.mem_of_getElem? (i := 1171) (by decide +kernel), List.mem_of_getElem? (i := 1172) (by decide +kernel)⟩
theorem lw_p21 : lw_okq (⟨"RegistryLogModel", "digestOf", "(II)J"⟩, 46) := ⟨⟨by decide +kernel, by decide +kernel⟩, List.mem_of_getElem? (i := 924) (by decide +kernel), List.mem_of_getElem? (i := 1179) (by decide +kernel), List.mem_of_getElem? (i := 1180) (by decide +kernel)⟩
theorem lw_p22 : lw_okq (⟨"RegistryLogModel", "headOf", "(III)J"⟩, 46) := ⟨⟨by decide +kernel, by decide +kernel⟩, List.mem_of_getElem? (i := 924) (by decide +kernel), List.mem_of_getElem? (i := 1192) (by decide +kernel), List.mem_of_getElem? (i := 1193) (by decide +kernel)⟩
theorem lw_p23 : lw_okq (⟨"RegistryLogModel", "goDown", "(IIZ)V"⟩, 46) := ⟨⟨by decide +kernel, by decide +kernel⟩, List.mem_of_getElem? (i := 924) (by decide +kernel), List.mem_of_getElem? (i := 1203) (by decide +kernel), List.mem_of_getElem? (i := 1204) (by decide +kernel)⟩
theorem lw_p24 : lw_okq (⟨"RegistryLogModel", "prove", "(J)V"⟩, 46) := ⟨⟨by decide +kernel, by decide +kernel⟩, List.mem_of_getElem? (i := 924) (by decide +kernel), List.mem_of_getElem? (i := 1210) (by decide +kernel), List.mem_of_getElem? (i := 1211) (by decide +kernel)⟩
theorem lw_p25 : lw_okq (⟨"RegistryLogModel", "asked", "(I)I"⟩, 46) := ⟨⟨by decide +kernel, by decide +kernel⟩, List.mem_of_getElem? (i := 924) (by decide +kernel), List.mem_of_getElem? (i := 1257) (by decide +kernel), List.mem_of_getElem? (i := 1258) (by decide +kernel)⟩
theorem lw_p26 : lw_okq (⟨"RegistryLogModel", "versionAsked", "(II)I"⟩, 46) := ⟨⟨by decide +kernel, by decide +kernel⟩, List.mem_of_getElem? (i := 924) (by decide +kernel), List.mem_of_getElem? (i := 1269) (by decide +kernel), List.mem_of_getElem? (i := 1270) (by decide +kernel)⟩
def lw_privs_2 : List (MethodName × Nat) := [(⟨"RegistryLogModel", "isFull", "()Z"⟩, 46), (⟨"RegistryLogModel", "refuses", "(ZZ)Z"⟩, 46), (⟨"RegistryLogModel", "write", "(IIII)I"⟩, 46), (⟨"RegistryLogModel", "isFounder", "(II)Z"⟩, 46), (⟨"RegistryLogModel", "isRow", "(I)Z"⟩, 46), (⟨"RegistryLogModel", "digestOf", "(II)J"⟩, 46), (⟨"RegistryLogModel", "headOf", "(III)J"⟩, 46), (⟨"RegistryLogModel", "goDown", "(IIZ)V"⟩, 46), (⟨"RegistryLogModel", "prove", "(J)V"⟩, 46), (⟨"RegistryLogModel", "asked", "(I)I"⟩, 46), (⟨"RegistryLogModel", "versionAsked", "(II)I"⟩, 46)]
theorem lw_r2 : ∀ q ∈ lw_privs_2, lw_okq q := List.forall_mem_cons.mpr ⟨lw_p16, List.forall_mem_cons.mpr ⟨lw_p17, List.forall_mem_cons.mpr ⟨lw_p18, List.forall_mem_cons.mpr ⟨lw_p19, List.forall_mem_cons.mpr ⟨lw_p20, List.forall_mem_cons.mpr ⟨lw_p21, List.forall_mem_cons.mpr ⟨lw_p22, List.forall_mem_cons.mpr ⟨lw_p23, List.forall_mem_cons.mpr ⟨lw_p24, List.forall_mem_cons.mpr ⟨lw_p25, List.forall_mem_cons.mpr ⟨lw_p26, fun _ h => absurd h List.not_mem_nil⟩⟩⟩⟩⟩⟩⟩⟩⟩⟩⟩
def lw_privs : List (MethodName × Nat) := lw_privs_1 ++ (lw_privs_2)
def lw_tbl : List Cond := k2_sels lw_privs ++ tables_1
theorem lw_privs_ok : ∀ q ∈ lw_privs, lw_okq q := by
  show ∀ q ∈ lw_privs_1 ++ (lw_privs_2), lw_okq q
  exact List.forall_mem_append.mpr ⟨lw_r1, lw_r2⟩
end
section
/-- the words that every method takes along -/
def gT : List Cond := lw_tbl.filter goodWord
theorem gT_good : ∀ w ∈ gT, goodWord w = true := fun w h => (List.mem_filter.mp h).2
theorem in_0 {w : Cond} (h : w ∈ k2_sels lw_privs) (hg : goodWord w = true) : w ∈ gT := List.mem_filter.mpr ⟨List.mem_append_left _ h, hg⟩
theorem at_1 {w : Cond} (h : w ∈ tables_1_1) : w ∈ lw_tbl := List.mem_append_right (k2_sels lw_privs) (show w ∈ tables_1 from List.mem_append_left _ h)
theorem in_1 {w : Cond} (h : w ∈ tables_1_1) (hg : goodWord w = true) : w ∈ gT := List.mem_filter.mpr ⟨at_1 h, hg⟩
theorem at_2 {w : Cond} (h : w ∈ tables_1_2) : w ∈ lw_tbl := List.mem_append_right (k2_sels lw_privs) (show w ∈ tables_1 from List.mem_append_right _ (List.mem_append_left _ h))
theorem in_2 {w : Cond} (h : w ∈ tables_1_2) (hg : goodWord w = true) : w ∈ gT := List.mem_filter.mpr ⟨at_2 h, hg⟩
theorem at_3 {w : Cond} (h : w ∈ tables_1_3) : w ∈ lw_tbl := List.mem_append_right (k2_sels lw_privs) (show w ∈ tables_1 from List.mem_append_right _ (List.mem_append_right _ (List.mem_append_left _ h)))
theorem in_3 {w : Cond} (h : w ∈ tables_1_3) (hg : goodWord w = true) : w ∈ gT := List.mem_filter.mpr ⟨at_3 h, hg⟩
theorem at_4 {w : Cond} (h : w ∈ tables_1_4) : w ∈ lw_tbl := List.mem_append_right (k2_sels lw_privs) (show w ∈ tables_1 from List.mem_append_right _ (List.mem_append_right _ (List.mem_append_right _ (List.mem_append_left _ h))))
theorem in_4 {w : Cond} (h : w ∈ tables_1_4) (hg : goodWord w = true) : w ∈ gT := List.mem_filter.mpr ⟨at_4 h, hg⟩
theorem at_5 {w : Cond} (h : w ∈ tables_1_5) : w ∈ lw_tbl := List.mem_append_right (k2_sels lw_privs) (show w ∈ tables_1 from List.mem_append_right _ (List.mem_append_right _ (List.mem_append_right _ (List.mem_append_right _ (List.mem_append_left _ h)))))
theorem in_5 {w : Cond} (h : w ∈ tables_1_5) (hg : goodWord w = true) : w ∈ gT := List.mem_filter.mpr ⟨at_5 h, hg⟩
theorem at_6 {w : Cond} (h : w ∈ tables_1_6) : w ∈ lw_tbl := List.mem_append_right (k2_sels lw_privs) (show w ∈ tables_1 from List.mem_append_right _ (List.mem_append_right _ (List.mem_append_right _ (List.mem_append_right _ (List.mem_append_right _ (h))))))
theorem in_6 {w : Cond} (h : w ∈ tables_1_6) (hg : goodWord w = true) : w ∈ gT := List.mem_filter.mpr ⟨at_6 h, hg⟩
def R_X : String := "RegistryLog"
def F_X : u_T := fun k => match k with
  | 0 => ("RegistryLog", "text", "Ljava/lang/StringBuilder;", true)
  | 1 => ("RegistryLog", "log", "LRegistryLog$Ledger;", true)
  | 2 => ("RegistryLog", "mirrors", "[LRegistryLog$Ledger;", true)
  | 3 => ("RegistryLog", "noMirror", "LRegistryLog$Ledger;", true)
  | 4 => ("RegistryLog", "latestProof", "LRegistryLog$Numbers;", true)
  | _ => ("RegistryLog", "hand", "LRegistryLog$Numbers;", true)
def t_X : Nat → FieldType := fun k => match k with
  | 0 => .object "java/lang/StringBuilder"
  | 1 => .object "RegistryLog$Ledger"
  | 2 => .array (.object "RegistryLog$Ledger")
  | 3 => .object "RegistryLog$Ledger"
  | 4 => .object "RegistryLog$Numbers"
  | _ => .object "RegistryLog$Numbers"
theorem n_X : ∀ a, a < 6 → ∀ b, b < 6 → a ≠ b → (F_X a).2.1 ≠ (F_X b).2.1 := by decide +kernel
theorem t_X_ok : ∀ k, k < 6 → parseFieldDescriptor (F_X k).2.2.1 = some (t_X k) := by decide +kernel
theorem i_X : ∀ w ∈ u_ws R_X F_X 6, w ∈ gT := List.forall_mem_cons.mpr ⟨(in_3 (List.mem_of_getElem? (i := 15) rfl) rfl), List.forall_mem_cons.mpr ⟨(in_3 (List.mem_of_getElem? (i := 17) rfl) rfl), List.forall_mem_cons.mpr ⟨(in_3 (List.mem_of_getElem? (i := 19) rfl) rfl), List.forall_mem_cons.mpr ⟨(in_3 (List.mem_of_getElem? (i := 21) rfl) rfl), List.forall_mem_cons.mpr ⟨(in_3 (List.mem_of_getElem? (i := 23) rfl) rfl), List.forall_mem_cons.mpr ⟨(in_3 (List.mem_of_getElem? (i := 25) rfl) rfl), (fun _ h => absurd h List.not_mem_nil)⟩⟩⟩⟩⟩⟩
def R_L : String := "RegistryLog$Ledger"
def F_L : u_T := fun k => match k with
  | 0 => ("RegistryLog$Ledger", "written", "[LRegistryLog$Row;", true)
  | 1 => ("RegistryLog$Ledger", "noRow", "LRegistryLog$Row;", true)
  | _ => ("RegistryLog$Ledger", "count", "I", false)
def t_L : Nat → FieldType := fun k => match k with
  | 0 => .array (.object "RegistryLog$Row")
  | 1 => .object "RegistryLog$Row"
  | _ => .int
theorem n_L : ∀ a, a < 3 → ∀ b, b < 3 → a ≠ b → (F_L a).2.1 ≠ (F_L b).2.1 := by decide +kernel
theorem t_L_ok : ∀ k, k < 3 → parseFieldDescriptor (F_L k).2.2.1 = some (t_L k) := by decide +kernel
theorem i_L : ∀ w ∈ u_ws R_L F_L 3, w ∈ gT := List.forall_mem_cons.mpr ⟨(in_2 (List.mem_of_getElem? (i := 224) rfl) rfl), List.forall_mem_cons.mpr ⟨(in_2 (List.mem_of_getElem? (i := 226) rfl) rfl), List.forall_mem_cons.mpr ⟨(in_2 (List.mem_of_getElem? (i := 228) rfl) rfl), (fun _ h => absurd h List.not_mem_nil)⟩⟩⟩
def R_N : String := "RegistryLog$Name"
def F_N : u_T := fun k => match k with
  | 0 => ("RegistryLog$Name", "typed", "Ljava/lang/String;", true)
  | _ => ("RegistryLog$Name", "folded", "Ljava/lang/String;", true)
def t_N : Nat → FieldType := fun k => match k with
  | 0 => .object "java/lang/String"
  | _ => .object "java/lang/String"
theorem n_N : ∀ a, a < 2 → ∀ b, b < 2 → a ≠ b → (F_N a).2.1 ≠ (F_N b).2.1 := by decide +kernel
theorem t_N_ok : ∀ k, k < 2 → parseFieldDescriptor (F_N k).2.2.1 = some (t_N k) := by decide +kernel
theorem i_N : ∀ w ∈ u_ws R_N F_N 2, w ∈ gT := List.forall_mem_cons.mpr ⟨(in_2 (List.mem_of_getElem? (i := 160) rfl) rfl), List.forall_mem_cons.mpr ⟨(in_2 (List.mem_of_getElem? (i := 162) rfl) rfl), (fun _ h => absurd h List.not_mem_nil)⟩⟩
def R_U : String := "RegistryLog$Numbers"
def F_U : u_T := fun k => match k with
  | 0 => ("RegistryLog$Numbers", "values", "[J", true)
  | 1 => ("RegistryLog$Numbers", "count", "I", false)
  | _ => ("RegistryLog$Numbers", "asked", "I", false)
def t_U : Nat → FieldType := fun k => match k with
  | 0 => .array .long
  | 1 => .int
  | _ => .int
theorem n_U : ∀ a, a < 3 → ∀ b, b < 3 → a ≠ b → (F_U a).2.1 ≠ (F_U b).2.1 := by decide +kernel
theorem t_U_ok : ∀ k, k < 3 → parseFieldDescriptor (F_U k).2.2.1 = some (t_U k) := by decide +kernel
theorem i_U : ∀ w ∈ u_ws R_U F_U 3, w ∈ gT := List.forall_mem_cons.mpr ⟨(in_3 (List.mem_of_getElem? (i := 1) rfl) rfl), List.forall_mem_cons.mpr ⟨(in_3 (List.mem_of_getElem? (i := 3) rfl) rfl), List.forall_mem_cons.mpr ⟨(in_3 (List.mem_of_getElem? (i := 5) rfl) rfl), (fun _ h => absurd h List.not_mem_nil)⟩⟩⟩
def R_R : String := "RegistryLog$Row"
def F_R : u_T := fun k => match k with
  | 0 => ("RegistryLog$Row", "kind", "I", true)
  | 1 => ("RegistryLog$Row", "person", "I", true)
  | 2 => ("RegistryLog$Row", "name", "LRegistryLog$Name;", true)
  | 3 => ("RegistryLog$Row", "nameAfter", "LRegistryLog$Name;", true)
  | 4 => ("RegistryLog$Row", "second", "I", true)
  | 5 => ("RegistryLog$Row", "third", "I", true)
  | 6 => ("RegistryLog$Row", "origin", "I", true)
  | _ => ("RegistryLog$Row", "digest", "J", true)
def t_R : Nat → FieldType := fun k => match k with
  | 0 => .int
  | 1 => .int
  | 2 => .object "RegistryLog$Name"
  | 3 => .object "RegistryLog$Name"
  | 4 => .int
  | 5 => .int
  | 6 => .int
  | _ => .long
theorem n_R : ∀ a, a < 8 → ∀ b, b < 8 → a ≠ b → (F_R a).2.1 ≠ (F_R b).2.1 := by decide +kernel
theorem t_R_ok : ∀ k, k < 8 → parseFieldDescriptor (F_R k).2.2.1 = some (t_R k) := by decide +kernel
theorem i_R : ∀ w ∈ u_ws R_R F_R 8, w ∈ gT := List.forall_mem_cons.mpr ⟨(in_2 (List.mem_of_getElem? (i := 203) rfl) rfl), List.forall_mem_cons.mpr ⟨(in_2 (List.mem_of_getElem? (i := 205) rfl) rfl), List.forall_mem_cons.mpr ⟨(in_2 (List.mem_of_getElem? (i := 207) rfl) rfl), List.forall_mem_cons.mpr ⟨(in_2 (List.mem_of_getElem? (i := 209) rfl) rfl), List.forall_mem_cons.mpr ⟨(in_2 (List.mem_of_getElem? (i := 211) rfl) rfl), List.forall_mem_cons.mpr ⟨(in_2 (List.mem_of_getElem? (i := 213) rfl) rfl), List.forall_mem_cons.mpr ⟨(in_2 (List.mem_of_getElem? (i := 215) rfl) rfl), List.forall_mem_cons.mpr ⟨(in_2 (List.mem_of_getElem? (i := 217) rfl) rfl), (fun _ h => absurd h List.not_mem_nil)⟩⟩⟩⟩⟩⟩⟩⟩
def R_H : String := "RegistryLog$TwoHeads"
def F_H : u_T := fun k => match k with
  | 0 => ("RegistryLog$TwoHeads", "shorter", "J", true)
  | _ => ("RegistryLog$TwoHeads", "longer", "J", true)
def t_H : Nat → FieldType := fun k => match k with
  | 0 => .long
  | _ => .long
theorem n_H : ∀ a, a < 2 → ∀ b, b < 2 → a ≠ b → (F_H a).2.1 ≠ (F_H b).2.1 := by decide +kernel
theorem t_H_ok : ∀ k, k < 2 → parseFieldDescriptor (F_H k).2.2.1 = some (t_H k) := by decide +kernel
theorem i_H : ∀ w ∈ u_ws R_H F_H 2, w ∈ gT := List.forall_mem_cons.mpr ⟨(in_3 (List.mem_of_getElem? (i := 146) rfl) rfl), List.forall_mem_cons.mpr ⟨(in_3 (List.mem_of_getElem? (i := 148) rfl) rfl), (fun _ h => absurd h List.not_mem_nil)⟩⟩
def R_S : String := "java/lang/String"
def F_S : u_T := fun k => match k with
  | 0 => ("java/lang/String", "value", "[B", true)
  | 1 => ("java/lang/String", "coder", "B", true)
  | 2 => ("java/lang/String", "hash", "I", false)
  | _ => ("java/lang/String", "hashIsZero", "Z", false)
def t_S : Nat → FieldType := fun k => match k with
  | 0 => .array .byte
  | 1 => .byte
  | 2 => .int
  | _ => .boolean
theorem n_S : ∀ a, a < 4 → ∀ b, b < 4 → a ≠ b → (F_S a).2.1 ≠ (F_S b).2.1 := by decide +kernel
theorem t_S_ok : ∀ k, k < 4 → parseFieldDescriptor (F_S k).2.2.1 = some (t_S k) := by decide +kernel
theorem i_S : ∀ w ∈ u_ws R_S F_S 4, w ∈ gT := List.forall_mem_cons.mpr ⟨(in_2 (List.mem_of_getElem? (i := 148) rfl) rfl), List.forall_mem_cons.mpr ⟨(in_2 (List.mem_of_getElem? (i := 150) rfl) rfl), List.forall_mem_cons.mpr ⟨(in_2 (List.mem_of_getElem? (i := 152) rfl) rfl), List.forall_mem_cons.mpr ⟨(in_2 (List.mem_of_getElem? (i := 154) rfl) rfl), (fun _ h => absurd h List.not_mem_nil)⟩⟩⟩⟩
def R_B : String := "java/lang/StringBuilder"
def F_B : u_T := fun k => match k with
  | 0 => ("java/lang/AbstractStringBuilder", "value", "[B", false)
  | 1 => ("java/lang/AbstractStringBuilder", "coder", "B", false)
  | 2 => ("java/lang/AbstractStringBuilder", "maybeLatin1", "Z", false)
  | _ => ("java/lang/AbstractStringBuilder", "count", "I", false)
def t_B : Nat → FieldType := fun k => match k with
  | 0 => .array .byte
  | 1 => .byte
  | 2 => .boolean
  | _ => .int
theorem n_B : ∀ a, a < 4 → ∀ b, b < 4 → a ≠ b → (F_B a).2.1 ≠ (F_B b).2.1 := by decide +kernel
theorem t_B_ok : ∀ k, k < 4 → parseFieldDescriptor (F_B k).2.2.1 = some (t_B k) := by decide +kernel
theorem i_B : ∀ w ∈ u_ws R_B F_B 4, w ∈ gT := List.forall_mem_cons.mpr ⟨(in_1 (List.mem_of_getElem? (i := 57) rfl) rfl), List.forall_mem_cons.mpr ⟨(in_1 (List.mem_of_getElem? (i := 59) rfl) rfl), List.forall_mem_cons.mpr ⟨(in_1 (List.mem_of_getElem? (i := 61) rfl) rfl), List.forall_mem_cons.mpr ⟨(in_1 (List.mem_of_getElem? (i := 63) rfl) rfl), (fun _ h => absurd h List.not_mem_nil)⟩⟩⟩⟩
def R_M : String := "RegistryLogModel"
def F_M : u_T := fun k => match k with
  | 0 => ("RegistryLogModel", "code", "I", false)
  | 1 => ("RegistryLogModel", "text", "[I", true)
  | 2 => ("RegistryLogModel", "typed", "I", false)
  | 3 => ("RegistryLogModel", "kind", "[I", true)
  | 4 => ("RegistryLogModel", "person", "[I", true)
  | 5 => ("RegistryLogModel", "first", "[I", true)
  | 6 => ("RegistryLogModel", "flag", "[I", true)
  | 7 => ("RegistryLogModel", "size", "[I", true)
  | 8 => ("RegistryLogModel", "otherSize", "[I", true)
  | 9 => ("RegistryLogModel", "letters", "[I", true)
  | 10 => ("RegistryLogModel", "otherLetters", "[I", true)
  | 11 => ("RegistryLogModel", "sums", "[I", true)
  | 12 => ("RegistryLogModel", "copied", "[I", true)
  | 13 => ("RegistryLogModel", "proof", "[J", true)
  | 14 => ("RegistryLogModel", "hand", "[J", true)
  | 15 => ("RegistryLogModel", "proofSize", "I", false)
  | 16 => ("RegistryLogModel", "handSize", "I", false)
  | 17 => ("RegistryLogModel", "nameLetters", "[I", true)
  | 18 => ("RegistryLogModel", "nameSize", "[I", true)
  | 19 => ("RegistryLogModel", "nameState", "[I", true)
  | 20 => ("RegistryLogModel", "nameOf", "[I", true)
  | 21 => ("RegistryLogModel", "founders", "[I", true)
  | 22 => ("RegistryLogModel", "rights", "[I", true)
  | 23 => ("RegistryLogModel", "versionOf", "[I", true)
  | 24 => ("RegistryLogModel", "versionNumber", "[I", true)
  | 25 => ("RegistryLogModel", "versionSum", "[I", true)
  | 26 => ("RegistryLogModel", "versionYanked", "[I", true)
  | 27 => ("RegistryLogModel", "names", "I", false)
  | 28 => ("RegistryLogModel", "owners", "I", false)
  | 29 => ("RegistryLogModel", "versions", "I", false)
  | 30 => ("RegistryLogModel", "one", "[I", true)
  | 31 => ("RegistryLogModel", "two", "[I", true)
  | 32 => ("RegistryLogModel", "oneSize", "I", false)
  | 33 => ("RegistryLogModel", "twoSize", "I", false)
  | 34 => ("RegistryLogModel", "foldA", "[I", true)
  | 35 => ("RegistryLogModel", "foldB", "[I", true)
  | 36 => ("RegistryLogModel", "tree", "[J", true)
  | 37 => ("RegistryLogModel", "parts", "[J", true)
  | 38 => ("RegistryLogModel", "otherFrom", "[I", true)
  | 39 => ("RegistryLogModel", "otherMany", "[I", true)
  | 40 => ("RegistryLogModel", "isSecond", "[Z", true)
  | 41 => ("RegistryLogModel", "steps", "I", false)
  | 42 => ("RegistryLogModel", "restFrom", "I", false)
  | 43 => ("RegistryLogModel", "restMany", "I", false)
  | 44 => ("RegistryLogModel", "restIn", "I", false)
  | _ => ("RegistryLogModel", "whole", "Z", false)
def t_M : Nat → FieldType := fun k => match k with
  | 0 => .int
  | 1 => .array .int
  | 2 => .int
  | 3 => .array .int
  | 4 => .array .int
  | 5 => .array .int
  | 6 => .array .int
  | 7 => .array .int
  | 8 => .array .int
  | 9 => .array .int
  | 10 => .array .int
  | 11 => .array .int
  | 12 => .array .int
  | 13 => .array .long
  | 14 => .array .long
  | 15 => .int
  | 16 => .int
  | 17 => .array .int
  | 18 => .array .int
  | 19 => .array .int
  | 20 => .array .int
  | 21 => .array .int
  | 22 => .array .int
  | 23 => .array .int
  | 24 => .array .int
  | 25 => .array .int
  | 26 => .array .int
  | 27 => .int
  | 28 => .int
  | 29 => .int
  | 30 => .array .int
  | 31 => .array .int
  | 32 => .int
  | 33 => .int
  | 34 => .array .int
  | 35 => .array .int
  | 36 => .array .long
  | 37 => .array .long
  | 38 => .array .int
  | 39 => .array .int
  | 40 => .array .boolean
  | 41 => .int
  | 42 => .int
  | 43 => .int
  | 44 => .int
  | _ => .boolean
theorem n_M : ∀ a, a < 46 → ∀ b, b < 46 → a ≠ b → (F_M a).2.1 ≠ (F_M b).2.1 := by decide +kernel
theorem t_M_ok : ∀ k, k < 46 → parseFieldDescriptor (F_M k).2.2.1 = some (t_M k) := by decide +kernel
theorem i_M : ∀ w ∈ u_ws R_M F_M 46, w ∈ gT := List.forall_mem_cons.mpr ⟨(in_5 (List.mem_of_getElem? (i := 15) rfl) rfl), List.forall_mem_cons.mpr ⟨(in_5 (List.mem_of_getElem? (i := 17) rfl) rfl), List.forall_mem_cons.mpr ⟨(in_5 (List.mem_of_getElem? (i := 19) rfl) rfl), List.forall_mem_cons.mpr ⟨(in_5 (List.mem_of_getElem? (i := 21) rfl) rfl), List.forall_mem_cons.mpr ⟨(in_5 (List.mem_of_getElem? (i := 23) rfl) rfl), List.forall_mem_cons.mpr ⟨(in_5 (List.mem_of_getElem? (i := 25) rfl) rfl), List.forall_mem_cons.mpr ⟨(in_5 (List.mem_of_getElem? (i := 27) rfl) rfl), List.forall_mem_cons.mpr ⟨(in_5 (List.mem_of_getElem? (i := 29) rfl) rfl), List.forall_mem_cons.mpr ⟨(in_5 (List.mem_of_getElem? (i := 31) rfl) rfl), List.forall_mem_cons.mpr ⟨(in_5 (List.mem_of_getElem? (i := 33) rfl) rfl), List.forall_mem_cons.mpr ⟨(in_5 (List.mem_of_getElem? (i := 35) rfl) rfl), List.forall_mem_cons.mpr ⟨(in_5 (List.mem_of_getElem? (i := 37) rfl) rfl), List.forall_mem_cons.mpr ⟨(in_5 (List.mem_of_getElem? (i := 39) rfl) rfl), List.forall_mem_cons.mpr ⟨(in_5 (List.mem_of_getElem? (i := 41) rfl) rfl), List.forall_mem_cons.mpr ⟨(in_5 (List.mem_of_getElem? (i := 43) rfl) rfl), List.forall_mem_cons.mpr ⟨(in_5 (List.mem_of_getElem? (i := 45) rfl) rfl), List.forall_mem_cons.mpr ⟨(in_5 (List.mem_of_getElem? (i := 47) rfl) rfl), List.forall_mem_cons.mpr ⟨(in_5 (List.mem_of_getElem? (i := 49) rfl) rfl), List.forall_mem_cons.mpr ⟨(in_5 (List.mem_of_getElem? (i := 51) rfl) rfl), List.forall_mem_cons.mpr ⟨(in_5 (List.mem_of_getElem? (i := 53) rfl) rfl), List.forall_mem_cons.mpr ⟨(in_5 (List.mem_of_getElem? (i := 55) rfl) rfl), List.forall_mem_cons.mpr ⟨(in_5 (List.mem_of_getElem? (i := 57) rfl) rfl), List.forall_mem_cons.mpr ⟨(in_5 (List.mem_of_getElem? (i := 59) rfl) rfl), List.forall_mem_cons.mpr ⟨(in_5 (List.mem_of_getElem? (i := 61) rfl) rfl), List.forall_mem_cons.mpr ⟨(in_5 (List.mem_of_getElem? (i := 63) rfl) rfl), List.forall_mem_cons.mpr ⟨(in_5 (List.mem_of_getElem? (i := 65) rfl) rfl), List.forall_mem_cons.mpr ⟨(in_5 (List.mem_of_getElem? (i := 67) rfl) rfl), List.forall_mem_cons.mpr ⟨(in_5 (List.mem_of_getElem? (i := 69) rfl) rfl), List.forall_mem_cons.mpr ⟨(in_5 (List.mem_of_getElem? (i := 71) rfl) rfl), List.forall_mem_cons.mpr ⟨(in_5 (List.mem_of_getElem? (i := 73) rfl) rfl), List.forall_mem_cons.mpr ⟨(in_5 (List.mem_of_getElem? (i := 75) rfl) rfl), List.forall_mem_cons.mpr ⟨(in_5 (List.mem_of_getElem? (i := 77) rfl) rfl), List.forall_mem_cons.mpr ⟨(in_5 (List.mem_of_getElem? (i := 79) rfl) rfl), List.forall_mem_cons.mpr ⟨(in_5 (List.mem_of_getElem? (i := 81) rfl) rfl), List.forall_mem_cons.mpr ⟨(in_5 (List.mem_of_getElem? (i := 83) rfl) rfl), List.forall_mem_cons.mpr ⟨(in_5 (List.mem_of_getElem? (i := 85) rfl) rfl), List.forall_mem_cons.mpr ⟨(in_5 (List.mem_of_getElem? (i := 87) rfl) rfl), List.forall_mem_cons.mpr ⟨(in_5 (List.mem_of_getElem? (i := 89) rfl) rfl), List.forall_mem_cons.mpr ⟨(in_5 (List.mem_of_getElem? (i := 91) rfl) rfl), List.forall_mem_cons.mpr ⟨(in_5 (List.mem_of_getElem? (i := 93) rfl) rfl), List.forall_mem_cons.mpr ⟨(in_5 (List.mem_of_getElem? (i := 95) rfl) rfl), List.forall_mem_cons.mpr ⟨(in_5 (List.mem_of_getElem? (i := 97) rfl) rfl), List.forall_mem_cons.mpr ⟨(in_5 (List.mem_of_getElem? (i := 99) rfl) rfl), List.forall_mem_cons.mpr ⟨(in_5 (List.mem_of_getElem? (i := 101) rfl) rfl), List.forall_mem_cons.mpr ⟨(in_5 (List.mem_of_getElem? (i := 103) rfl) rfl), List.forall_mem_cons.mpr ⟨(in_5 (List.mem_of_getElem? (i := 105) rfl) rfl), (fun _ h => absurd h List.not_mem_nil)⟩⟩⟩⟩⟩⟩⟩⟩⟩⟩⟩⟩⟩⟩⟩⟩⟩⟩⟩⟩⟩⟩⟩⟩⟩⟩⟩⟩⟩⟩⟩⟩⟩⟩⟩⟩⟩⟩⟩⟩⟩⟩⟩⟩⟩⟩
abbrev cls_ : List vw_C := [(R_X, F_X, 6), (R_L, F_L, 3), (R_N, F_N, 2), (R_U, F_U, 3), (R_R, F_R, 8), (R_H, F_H, 2), (R_S, F_S, 4), (R_B, F_B, 4), (R_M, F_M, 46)]
end
section
/-! MY BASE: one list of words for every method (the tables' words); a contract whose heap is a parameter; calls by it. -/
def wC (y : MethodName) (b : ByteArray) (n : Nat) (r : Option FieldType) : List Cond := .code y b n r :: gT
theorem tb_wC {y : MethodName} {b : ByteArray} {n : Nat} {r : Option FieldType} (h : Cond.code y b n r ∈ gT) : GoodIn gT (wC y b n r) := fun w hw => by
  rcases List.mem_cons.mp hw with e | h2
  · subst e; exact ⟨h, good_of_word (gT_good _ h)⟩
  · exact ⟨h2, good_of_word (gT_good _ h2)⟩
def yOk (y : MethodName) (n : Nat) : Prop := y.cls ≠ "java/lang/invoke/MethodHandle" ∧ y.cls ≠ "java/lang/invoke/VarHandle" ∧ (parseMethodDescriptor y.desc).map (fun d => d.parameters.length) = some n
/-- the nest mates' links -/
def nW : List Cond := [.methodLinkNest "RegistryLog" 154 ⟨"RegistryLog$Tree", "headOf", "(LRegistryLog$Ledger;II)J"⟩ "RegistryLog", .methodLinkNest "RegistryLog" 163 ⟨"RegistryLog$Tree", "proveInside", "(LRegistryLog$Ledger;IIILRegistryLog$Numbers;)V"⟩ "RegistryLog", .methodLinkNest "RegistryLog" 168 ⟨"RegistryLog$Tree", "proveGrowth", "(LRegistryLog$Ledger;IIIZLRegistryLog$Numbers;)V"⟩ "RegistryLog", .methodLinkNest "RegistryLog" 180 ⟨"RegistryLog$Tree", "headFromInside", "(IIJLRegistryLog$Numbers;)J"⟩ "RegistryLog", .methodLinkNest "RegistryLog" 187 ⟨"RegistryLog$Tree", "headsFromGrowth", "(IIZJLRegistryLog$Numbers;)LRegistryLog$TwoHeads;"⟩ "RegistryLog"]
theorem nW_form : ∀ w ∈ nW, ∃ a i x h, w = .methodLinkNest a i x h := by
  intro w hw
  simp only [nW, List.mem_cons, List.not_mem_nil, or_false] at hw
  rcases hw with h | h | h | h | h <;> exact ⟨_, _, _, _, h⟩
def nK (U : State) : Prop := ∀ w ∈ nW, va_Nw w U
theorem nK.same {u U : State} (hv : u.vm = U.vm) (h : nK u) : nK U := fun w hw => by
  obtain ⟨a, i, x, y, e⟩ := nW_form w hw
  have := h w hw
  subst e
  exact va_Nw.same rfl hv this
theorem nK.warm {s U : State} (hW : s.WarmedH U.vm) (h : nK s) : nK U := fun w hw => by
  obtain ⟨a, i, x, y, e⟩ := nW_form w hw
  have := h w hw
  subst e
  exact va_Nw.warmM hW this
/-- a call's words: an instance method, a static one, a constructor, a nest mate's static one -/
def kV (own : String) (i : Nat) (C : String) (y : MethodName) (b : ByteArray) (mL : Nat) (r : Option FieldType) (n : Nat) : Prop :=
  Cond.methodLink own i y ∈ gT ∧ Cond.instanceMethod y ∈ gT ∧ Cond.selects C y y ∈ gT ∧ Cond.initialized y.cls ∈ gT ∧ Cond.code y b mL r ∈ gT ∧ yOk y n
def kS (own : String) (i : Nat) (y : MethodName) (b : ByteArray) (mL : Nat) (r : Option FieldType) (n : Nat) : Prop :=
  Cond.methodLink own i y ∈ gT ∧ Cond.static y ∈ gT ∧ Cond.initialized y.cls ∈ gT ∧ Cond.code y b mL r ∈ gT ∧ yOk y n
def kI (own : String) (i : Nat) (y : MethodName) (b : ByteArray) (mL : Nat) (n : Nat) : Prop :=
  Cond.methodLink own i y ∈ gT ∧ Cond.instanceMethod y ∈ gT ∧ Cond.initialized y.cls ∈ gT ∧ Cond.code y b mL none ∈ gT ∧ y.name = "<init>" ∧ yOk y n
def kN (own : String) (i : Nat) (y : MethodName) (host : String) (b : ByteArray) (mL : Nat) (r : Option FieldType) (n : Nat) : Prop :=
  Cond.methodLinkNest own i y host ∈ nW ∧ Cond.static y ∈ gT ∧ Cond.initialized y.cls ∈ gT ∧ Cond.code y b mL r ∈ gT ∧ yOk y n
/-- what is fixed through a run: class numbers and slots; array classes; the heap's size at the start; the addresses of string constants -/
abbrev gG : Type := va_G × (Nat → ClassId) × Nat × (Nat → Nat)
/-- the array classes that are met: byte, long, Row, Ledger, int, boolean -/
abbrev ty_ (cA : Nat → ClassId) : List (ClassId × FieldType) := [(cA 0, .byte), (cA 1, .long), (cA 2, .object "RegistryLog$Row"), (cA 3, .object "RegistryLog$Ledger"), (cA 4, .int), (cA 5, .boolean)]
/-- the classes of the byte arrays of strings: cA 0, and cA 6, that of the constants' -/
def bK (g : gG) (U : State) : Prop := ∀ k : ClassId, k = g.2.1 0 ∨ k = g.2.1 6 → ∃ (kA : Class) (comp : ClassId), U.vm.classes[k]? = some kA ∧ kA.kind = .array comp .byte
theorem bK.moved {g : gG} {u U : State} (hvm : u.vm.Alike U.vm) (h : bK g u) : bK g U := fun k hk => by
  obtain ⟨kA, comp, h1, h2⟩ := h k hk
  obtain ⟨k', hk', he⟩ := hvm.2.2 _ _ h1
  exact ⟨k', comp, hk', by rw [he]; exact h2⟩
def rK (g : gG) (U : State) : Prop := vk_R "RegistryLog$Ledger" 11 "" (g.2.2.2 0) U ∧ vk_R "java/lang/StringLatin1" 151 "" (g.2.2.2 1) U ∧ vk_R "RegistryLog" 231 "no such name, person or version" (g.2.2.2 2) U ∧ vk_R "RegistryLog" 235 "the row may not come" (g.2.2.2 3) U ∧ vk_R "RegistryLog" 122 "no mark between two names, or no such person" (g.2.2.2 4) U
/-- what the tables say, at a state -/
def kK (g : gG) (U : State) : Prop := va_K g.1 cls_ (ty_ g.2.1) U ∧ nK U ∧ (va_AO "RegistryLog$Row" U ∧ va_AO "RegistryLog$Ledger" U) ∧ bK g U ∧ rK g U
theorem kK.same {g : gG} {u U : State} (hv : u.vm = U.vm) (ha : u.vm.Alike U.vm) (h : kK g u) : kK g U :=
  ⟨va_K.moved ha h.1, nK.same hv h.2.1, ⟨va_AO.moved ha h.2.2.1.1, va_AO.moved ha h.2.2.1.2⟩, bK.moved ha h.2.2.2.1, vk_R.same hv.symm h.2.2.2.2.1, vk_R.same hv.symm h.2.2.2.2.2.1, vk_R.same hv.symm h.2.2.2.2.2.2.1, vk_R.same hv.symm h.2.2.2.2.2.2.2.1, vk_R.same hv.symm h.2.2.2.2.2.2.2.2⟩
theorem kK.warm {g : gG} {u U : State} (hW : u.WarmedH U.vm) (h : kK g u) : kK g U :=
  ⟨va_K.moved hW.alike h.1, nK.warm hW h.2.1, ⟨va_AO.moved hW.alike h.2.2.1.1, va_AO.moved hW.alike h.2.2.1.2⟩, bK.moved hW.alike h.2.2.2.1, vk_R.warm hW h.2.2.2.2.1, vk_R.warm hW h.2.2.2.2.2.1, vk_R.warm hW h.2.2.2.2.2.2.1, vk_R.warm hW h.2.2.2.2.2.2.2.1, vk_R.warm hW h.2.2.2.2.2.2.2.2⟩
/-- the cells that are older than the law's start may not change -/
abbrev old_ (g : gG) : Nat → Prop := fun q => g.2.2.1 ≤ q
def zK (g : gG) (U : State) (H : Heap) : Prop := va_Z "java/lang/String" "COMPACT_STRINGS" "Z" (.int 1) (old_ g) U H ∧ ∃ r : Option Nat, va_Z "jdk/internal/util/Preconditions" "SIOOBE_FORMATTER" "Ljava/util/function/BiFunction;" (va_rf r) (old_ g) U H
theorem zK.moved {g : gG} {u U : State} {H : Heap} (ha : u.vm.Alike U.vm) (h : zK g u H) : zK g U H := ⟨va_Z.moved ha h.1, h.2.choose, va_Z.moved ha h.2.choose_spec⟩
theorem zK.kept {g : gG} {U : State} {H H1 : Heap} (h : zK g U H) (hq : ∀ a : Nat, a < H.size → ¬ old_ g a → H1[a]? = H[a]?) : zK g U H1 := ⟨va_Z.kept h.1 hq, h.2.choose, va_Z.kept h.2.choose_spec hq⟩
def rmk (f cs sl lo : Nat) : Room := { frames := f, cells := cs, slots := sl, locals := lo }
/-- a contract's start: the arguments, the heap, the tables -/
def pC (g : gG) (H : Heap) (As : List Value) : Array Value → State → Prop := fun v U => v = As.toArray ∧ U.heap = H ∧ kK g U ∧ zK g U H
theorem pC_blind {g : gG} {H : Heap} {As : List Value} : FrameBlind (pC g H As) := fun a U fr mk q => ⟨q.1, q.2.1, kK.same (u := U) (U := U.calling fr mk a) rfl (Vm.Alike.refl U.vm) q.2.2.1, zK.moved (u := U) (U := U.calling fr mk a) (Vm.Alike.refl U.vm) q.2.2.2⟩
/-- a contract's end where nothing changed -/
def qP (H : Heap) (P : Option Value → Prop) : Array Value → State → Outcome → State → Prop := fun _ _ o t => ∃ v, o = .returned v ∧ P v ∧ t.heap = H
/-- a contract's end: cells outside of N that were there are as they were -/
def hC (N : Nat → Prop) (H H' : Heap) : Prop := H.size ≤ H'.size ∧ ∀ q : Nat, q < H.size → ¬ N q → H'[q]? = H[q]?
def qW (H : Heap) (N : Nat → Prop) (P : Option Value → Heap → Prop) : Array Value → State → Outcome → State → Prop := fun _ _ o t => ∃ v, o = .returned v ∧ hC N H t.heap ∧ P v t.heap
def fW (H : Heap) (N : Nat → Prop) : Addr → Prop := fun q => N q ∨ H.size ≤ q
abbrev no_ : Nat → Prop := fun _ => False
/-- what a method's body stands on -/
def cF (g : gG) (p : Program) (s : State) (m : MethodId) (args : Array Value) (meth : Method) (c : Code) (cc : ByteArray) (nL : Nat) (own : String) (ret : Option FieldType) : Prop :=
  p.tables.exec = Jvm.exec ∧ c.code = cc ∧ c.maxLocals = nL ∧ s.vm.findClass own = some m.cls ∧ (∀ w ∈ gT, w.before args s = true) ∧ meth.sig.returnType = ret ∧ meth.locks = false ∧ kK g s
section B0
variable {p : Program} {l : Launch} {e : Env} {R : Room} {s : State} {m : MethodId} {args : Array Value} {below : List Frame} {meth : Method} {c : Code} {H : Heap} {locs : List Loc} {cells slots : Nat} {Q : State → Prop}
/-- a contract out of a walk of the body -/
theorem mB {g : gG} {y : MethodName} {cc : ByteArray} {maxL : Nat} {ret : Option FieldType} {rm : Room} {As : List Value} {Qc : Array Value → State → Outcome → State → Prop} {mc ms : Nat} {free : Addr → Prop}
    (hy : plainName y.cls = true) (hn : (lg_sl As).length ≤ maxL)
    (body : ∀ p e s m below meth c (ls : Array Slot), cF g p s m As.toArray meth c cc maxL y.cls ret → s.heap = H → zK g s H → meth.name = y.name → lv_has ls maxL (lv_args 0 As) → W p l e rm s m As.toArray below meth c H [] 0 0 (MQ below Qc As.toArray s mc ms free) (F0 m 0 ls [])) :
    Met l y (wC y cc maxL ret) rm (pC g H As) Qc mc ms free := by
  refine Met.ofW (cc := cc) (maxL := maxL) (ret := ret) hy rfl ?_
  intro p e s m args below meth c s₁ B hml hv
  obtain ⟨rfl, hH, hK, hZ⟩ := hv
  have hts := atoms_spec (ws := wC y cc maxL ret) B.pre
  have hl := lv_entry As (n := maxL) hn
  rw [lg_entry_eq, hH]
  exact body p e s m below meth c _ ⟨B.exec, B.bytes, hml, findClass_of_methodNamed B.named, fun w hw => hts w (List.mem_cons_of_mem _ hw), B.returns, B.notSynchronized, hK⟩ hH hZ (name_of_methodNamed B.named B.method).1 hl
variable {y : MethodName} {bytes cc : ByteArray} {maxL nL mc ms n index : Nat} {ret r0 : Option FieldType} {rm : Room} {Qc : Array Value → State → Outcome → State → Prop} {free : Addr → Prop} {own C : String} {b : Addr} {As rest : List Value} {g : gG} {pc : Nat} {ls : Array Slot} {st0 : List Value}
/-- a call, by the contract and the call's words -/
theorem rV (C0 : cF g p s m args meth c cc nL own r0) (hM : Met l y (wC y bytes maxL ret) rm (pC g H (.ref b :: As)) Qc mc ms free) (hZ : zK g s H) (k : kV own index C y bytes maxL ret n)
    (hrc : rm.cells = mc) (hrs : rm.slots = ms) (hR : rm.frames + 1 ≤ R.frames ∧ 8 + (maxL + 11) + rm.locals ≤ R.locals)
    (hb : ∃ cellB : Cell, H[b]? = some cellB ∧ cellB.vm.isStatics = false ∧ s.vm.findClass C = some cellB.cls)
    (hn : As.length = n) (hsize : ls.size = nL) (hst : st0 = As.reverse ++ .ref b :: rest) (hW : (rest.map fun v => v.category).sum ≤ 8) (hdg : decode cc pc = .ok (.invokevirtual index, 3)) (hf : cells + mc ≤ R.cells ∧ slots + ms ≤ R.slots) :
    va_Run p l e R s m args below meth c H locs cells slots mc ms (F0 m pc ls st0) rest (Qc (Value.ref b :: As).toArray) free := by
  obtain ⟨hx, hbb, hml, hown, hts, hr, hlk, hK⟩ := C0
  obtain ⟨k1, k2, k3, k4, k5, k6⟩ := k
  exact va_runV ⟨hx, hbb, hml, hown, hts⟩ hM ⟨callB_of n hts (tb_wC k5) rfl hrc hrs (hts _ k4) (hts _ k1) k6 hR, hts _ k2, hts _ k3⟩ ⟨pC_blind, hb, fun U hU hW => ⟨rfl, hU, kK.warm hW hK, zK.moved hW.alike hZ⟩⟩ rfl hn hsize hst (lv_room hW) hdg hf
theorem rS (C0 : cF g p s m args meth c cc nL own r0) (hM : Met l y (wC y bytes maxL ret) rm (pC g H As) Qc mc ms free) (hZ : zK g s H) (k : kS own index y bytes maxL ret n)
    (hrc : rm.cells = mc) (hrs : rm.slots = ms) (hR : rm.frames + 1 ≤ R.frames ∧ 8 + (maxL + 11) + rm.locals ≤ R.locals)
    (hn : As.length = n) (hsize : ls.size = nL) (hst : st0 = As.reverse ++ rest) (hW : (rest.map fun v => v.category).sum ≤ 8) (hdg : decode cc pc = .ok (.invokestatic index, 3)) (hf : cells + mc ≤ R.cells ∧ slots + ms ≤ R.slots) :
    va_Run p l e R s m args below meth c H locs cells slots mc ms (F0 m pc ls st0) rest (Qc As.toArray) free := by
  obtain ⟨hx, hbb, hml, hown, hts, hr, hlk, hK⟩ := C0
  obtain ⟨k1, k2, k4, k5, k6⟩ := k
  exact va_runS ⟨hx, hbb, hml, hown, hts⟩ hM ⟨callB_of n hts (tb_wC k5) rfl hrc hrs (hts _ k4) (hts _ k1) k6 hR, hts _ k2⟩ ⟨pC_blind, fun U hU hW => ⟨rfl, hU, kK.warm hW hK, zK.moved hW.alike hZ⟩⟩ rfl hn hsize hst (lv_room hW) hdg hf
theorem rI (C0 : cF g p s m args meth c cc nL own r0) (hM : Met l y (wC y bytes maxL none) rm (pC g H (.ref b :: As)) Qc mc ms free) (hZ : zK g s H) (k : kI own index y bytes maxL n)
    (hrc : rm.cells = mc) (hrs : rm.slots = ms) (hR : rm.frames + 1 ≤ R.frames ∧ 8 + (maxL + 11) + rm.locals ≤ R.locals)
    (hn : As.length = n) (hsize : ls.size = nL) (hst : st0 = As.reverse ++ .ref b :: rest) (hW : (rest.map fun v => v.category).sum ≤ 8) (hdg : decode cc pc = .ok (.invokespecial index, 3)) (hf : cells + mc ≤ R.cells ∧ slots + ms ≤ R.slots) :
    va_Run p l e R s m args below meth c H locs cells slots mc ms (F0 m pc ls st0) rest (Qc (Value.ref b :: As).toArray) free := by
  obtain ⟨hx, hbb, hml, hown, hts, hr, hlk, hK⟩ := C0
  obtain ⟨k1, k2, k4, k5, k7, k6⟩ := k
  exact va_runI ⟨hx, hbb, hml, hown, hts⟩ hM ⟨callB_of n hts (tb_wC k5) rfl hrc hrs (hts _ k4) (hts _ k1) k6 hR, k7, hts _ k2⟩ ⟨pC_blind, fun U hU hW => ⟨rfl, hU, kK.warm hW hK, zK.moved hW.alike hZ⟩⟩ rfl hn hsize hst (lv_room hW) hdg hf
theorem rN {host : String} (C0 : cF g p s m args meth c cc nL own r0) (hM : Met l y (wC y bytes maxL ret) rm (pC g H As) Qc mc ms free) (hZ : zK g s H) (k : kN own index y host bytes maxL ret n)
    (hrc : rm.cells = mc) (hrs : rm.slots = ms) (hR : rm.frames + 1 ≤ R.frames ∧ 8 + (maxL + 11) + rm.locals ≤ R.locals)
    (hn : As.length = n) (hsize : ls.size = nL) (hst : st0 = As.reverse ++ rest) (hW : (rest.map fun v => v.category).sum ≤ 8) (hdg : decode cc pc = .ok (.invokestatic index, 3)) (hf : cells + mc ≤ R.cells ∧ slots + ms ≤ R.slots) :
    va_Run p l e R s m args below meth c H locs cells slots mc ms (F0 m pc ls st0) rest (Qc As.toArray) free := by
  obtain ⟨hx, hbb, hml, hown, hts, hr, hlk, hK⟩ := C0
  obtain ⟨k1, k2, k4, k5, k6⟩ := k
  exact va_runSN ⟨hx, hbb, hml, hown, hts⟩ hM ⟨va_cnB n hts (tb_wC k5) rfl hrc hrs (hK.2.1 _ k1) (hts _ k4) k6 hR, hts _ k2, trivial⟩ ⟨pC_blind, fun U hU hW => ⟨rfl, hU, kK.warm hW hK, zK.moved hW.alike hZ⟩⟩ rfl hn hsize hst (lv_room hW) hdg hf
/-- behind a call that changed nothing -/
theorem aP {a : Array Value} {P : Option Value → Prop} (hr : va_Run p l e R s m args below meth c H locs cells slots 0 0 (F0 m pc ls st0) rest (qP H P a) no_)
    (kk : ∀ v, P v → W p l e R s m args below meth c H locs cells slots Q (F0 m (pc + 3) ls (v.toList ++ rest))) : W p l e R s m args below meth c H locs cells slots Q (F0 m pc ls st0) := by
  intro T hT X
  obtain ⟨v, st₀, t, T', L, h0, X', hL, e1, e2, ⟨v', hv, hp, hh⟩, st⟩ := hr T hT X
  cases hv
  obtain ⟨t2, a1, b1⟩ := kk v hp T' (by rw [e1]; exact hh) (Stand.forget X' (fun q h => (hL q h).elim))
  exact ⟨t2, st t2 a1, b1⟩
/-- behind a call that changed cells of N alone, and made some -/
theorem aW {a : Array Value} {P : Option Value → Heap → Prop} {N : Nat → Prop} (hr : va_Run p l e R s m args below meth c H locs cells slots mc ms (F0 m pc ls st0) rest (qW H N P a) (fW H N))
    (kk : ∀ (v : Option Value) (H1 : Heap) (L : List Loc), hC N H H1 → P v H1 → (∀ q ∈ L, fW H N q.base) → W p l e R s m args below meth c H1 (locs ++ L) (cells + mc) (slots + ms) Q (F0 m (pc + 3) ls (v.toList ++ rest))) : W p l e R s m args below meth c H locs cells slots Q (F0 m pc ls st0) := by
  intro T hT X
  obtain ⟨v, st₀, t, T', L, h0, X', hL, e1, e2, ⟨v', hv, hh, hp⟩, st⟩ := hr T hT X
  cases hv
  obtain ⟨t2, a1, b1⟩ := kk v T'.heap L (by rw [e1]; exact hh) (by rw [e1]; exact hp) hL T' rfl X'
  exact ⟨t2, st t2 a1, b1⟩
end B0
end
section
abbrev b_L_init : ByteArray := prog_2_method_1_code
def y_L_init : MethodName := ⟨"RegistryLog$Ledger", "<init>", "()V"⟩
theorem d_L_init_0 : decode b_L_init 0 = .ok (.aload_n 0, 1) := by decide +kernel
theorem d_L_init_1 : decode b_L_init 1 = .ok (.invokespecial 3, 3) := by decide +kernel
theorem d_L_init_4 : decode b_L_init 4 = .ok (.new 9, 3) := by decide +kernel
theorem d_L_init_7 : decode b_L_init 7 = .ok (.dup, 1) := by decide +kernel
theorem d_L_init_8 : decode b_L_init 8 = .ok (.ldc 11, 2) := by decide +kernel
theorem d_L_init_10 : decode b_L_init 10 = .ok (.invokespecial 13, 3) := by decide +kernel
theorem d_L_init_13 : decode b_L_init 13 = .ok (.astore_n 1, 1) := by decide +kernel
theorem d_L_init_14 : decode b_L_init 14 = .ok (.aload_n 0, 1) := by decide +kernel
theorem d_L_init_15 : decode b_L_init 15 = .ok (.new 16, 3) := by decide +kernel
theorem d_L_init_18 : decode b_L_init 18 = .ok (.dup, 1) := by decide +kernel
theorem d_L_init_19 : decode b_L_init 19 = .ok (.iconst (-1), 1) := by decide +kernel
theorem d_L_init_20 : decode b_L_init 20 = .ok (.iconst (-1), 1) := by decide +kernel
theorem d_L_init_21 : decode b_L_init 21 = .ok (.aload_n 1, 1) := by decide +kernel
theorem d_L_init_22 : decode b_L_init 22 = .ok (.aload_n 1, 1) := by decide +kernel
theorem d_L_init_23 : decode b_L_init 23 = .ok (.iconst (-1), 1) := by decide +kernel
theorem d_L_init_24 : decode b_L_init 24 = .ok (.iconst (-1), 1) := by decide +kernel
theorem d_L_init_25 : decode b_L_init 25 = .ok (.iconst (-1), 1) := by decide +kernel
theorem d_L_init_26 : decode b_L_init 26 = .ok (.invokespecial 18, 3) := by decide +kernel
theorem d_L_init_29 : decode b_L_init 29 = .ok (.putfield 21, 3) := by decide +kernel
theorem d_L_init_32 : decode b_L_init 32 = .ok (.aload_n 0, 1) := by decide +kernel
theorem d_L_init_33 : decode b_L_init 33 = .ok (.bipush 120, 2) := by decide +kernel
theorem d_L_init_35 : decode b_L_init 35 = .ok (.anewarray 16, 3) := by decide +kernel
theorem d_L_init_38 : decode b_L_init 38 = .ok (.putfield 27, 3) := by decide +kernel
theorem d_L_init_41 : decode b_L_init 41 = .ok (.iconst 0, 1) := by decide +kernel
theorem d_L_init_42 : decode b_L_init 42 = .ok (.istore_n 2, 1) := by decide +kernel
theorem d_L_init_43 : decode b_L_init 43 = .ok (.iload_n 2, 1) := by decide +kernel
theorem d_L_init_44 : decode b_L_init 44 = .ok (.bipush 120, 2) := by decide +kernel
theorem d_L_init_46 : decode b_L_init 46 = .ok (.if_icmp .ge 19, 3) := by decide +kernel
theorem d_L_init_49 : decode b_L_init 49 = .ok (.aload_n 0, 1) := by decide +kernel
theorem d_L_init_50 : decode b_L_init 50 = .ok (.getfield 27, 3) := by decide +kernel
theorem d_L_init_53 : decode b_L_init 53 = .ok (.iload_n 2, 1) := by decide +kernel
theorem d_L_init_54 : decode b_L_init 54 = .ok (.aload_n 0, 1) := by decide +kernel
theorem d_L_init_55 : decode b_L_init 55 = .ok (.getfield 21, 3) := by decide +kernel
theorem d_L_init_58 : decode b_L_init 58 = .ok (.aastore, 1) := by decide +kernel
theorem d_L_init_59 : decode b_L_init 59 = .ok (.iinc 2 1, 3) := by decide +kernel
theorem d_L_init_62 : decode b_L_init 62 = .ok (.goto (-19), 3) := by decide +kernel
theorem d_L_init_65 : decode b_L_init 65 = .ok (.aload_n 0, 1) := by decide +kernel
theorem d_L_init_66 : decode b_L_init 66 = .ok (.iconst 0, 1) := by decide +kernel
theorem d_L_init_67 : decode b_L_init 67 = .ok (.putfield 31, 3) := by decide +kernel
theorem d_L_init_70 : decode b_L_init 70 = .ok (.return_, 1) := by decide +kernel

abbrev b_L_size : ByteArray := prog_2_method_2_code
def y_L_size : MethodName := ⟨"RegistryLog$Ledger", "size", "()I"⟩
theorem d_L_size_0 : decode b_L_size 0 = .ok (.aload_n 0, 1) := by decide +kernel
theorem d_L_size_1 : decode b_L_size 1 = .ok (.getfield 31, 3) := by decide +kernel
theorem d_L_size_4 : decode b_L_size 4 = .ok (.ireturn, 1) := by decide +kernel

abbrev b_L_at : ByteArray := prog_2_method_3_code
def y_L_at : MethodName := ⟨"RegistryLog$Ledger", "at", "(I)LRegistryLog$Row;"⟩
theorem d_L_at_0 : decode b_L_at 0 = .ok (.iload_n 1, 1) := by decide +kernel
theorem d_L_at_1 : decode b_L_at 1 = .ok (.ifCond .lt 20, 3) := by decide +kernel
theorem d_L_at_4 : decode b_L_at 4 = .ok (.iload_n 1, 1) := by decide +kernel
theorem d_L_at_5 : decode b_L_at 5 = .ok (.aload_n 0, 1) := by decide +kernel
theorem d_L_at_6 : decode b_L_at 6 = .ok (.getfield 31, 3) := by decide +kernel
theorem d_L_at_9 : decode b_L_at 9 = .ok (.if_icmp .ge 12, 3) := by decide +kernel
theorem d_L_at_12 : decode b_L_at 12 = .ok (.aload_n 0, 1) := by decide +kernel
theorem d_L_at_13 : decode b_L_at 13 = .ok (.getfield 27, 3) := by decide +kernel
theorem d_L_at_16 : decode b_L_at 16 = .ok (.iload_n 1, 1) := by decide +kernel
theorem d_L_at_17 : decode b_L_at 17 = .ok (.aaload, 1) := by decide +kernel
theorem d_L_at_18 : decode b_L_at 18 = .ok (.goto 7, 3) := by decide +kernel
theorem d_L_at_21 : decode b_L_at 21 = .ok (.aload_n 0, 1) := by decide +kernel
theorem d_L_at_22 : decode b_L_at 22 = .ok (.getfield 21, 3) := by decide +kernel
theorem d_L_at_25 : decode b_L_at 25 = .ok (.areturn, 1) := by decide +kernel

abbrev b_L_append : ByteArray := prog_2_method_4_code
def y_L_append : MethodName := ⟨"RegistryLog$Ledger", "append", "(LRegistryLog$Row;)V"⟩
theorem d_L_append_0 : decode b_L_append 0 = .ok (.aload_n 0, 1) := by decide +kernel
theorem d_L_append_1 : decode b_L_append 1 = .ok (.getfield 31, 3) := by decide +kernel
theorem d_L_append_4 : decode b_L_append 4 = .ok (.bipush 120, 2) := by decide +kernel
theorem d_L_append_6 : decode b_L_append 6 = .ok (.if_icmp .ge 23, 3) := by decide +kernel
theorem d_L_append_9 : decode b_L_append 9 = .ok (.aload_n 0, 1) := by decide +kernel
theorem d_L_append_10 : decode b_L_append 10 = .ok (.getfield 27, 3) := by decide +kernel
theorem d_L_append_13 : decode b_L_append 13 = .ok (.aload_n 0, 1) := by decide +kernel
theorem d_L_append_14 : decode b_L_append 14 = .ok (.getfield 31, 3) := by decide +kernel
theorem d_L_append_17 : decode b_L_append 17 = .ok (.aload_n 1, 1) := by decide +kernel
theorem d_L_append_18 : decode b_L_append 18 = .ok (.aastore, 1) := by decide +kernel
theorem d_L_append_19 : decode b_L_append 19 = .ok (.aload_n 0, 1) := by decide +kernel
theorem d_L_append_20 : decode b_L_append 20 = .ok (.dup, 1) := by decide +kernel
theorem d_L_append_21 : decode b_L_append 21 = .ok (.getfield 31, 3) := by decide +kernel
theorem d_L_append_24 : decode b_L_append 24 = .ok (.iconst 1, 1) := by decide +kernel
theorem d_L_append_25 : decode b_L_append 25 = .ok (.iadd, 1) := by decide +kernel
theorem d_L_append_26 : decode b_L_append 26 = .ok (.putfield 31, 3) := by decide +kernel
theorem d_L_append_29 : decode b_L_append 29 = .ok (.return_, 1) := by decide +kernel

abbrev b_L_replace : ByteArray := prog_2_method_5_code
def y_L_replace : MethodName := ⟨"RegistryLog$Ledger", "replace", "(ILRegistryLog$Row;)V"⟩
theorem d_L_replace_0 : decode b_L_replace 0 = .ok (.iload_n 1, 1) := by decide +kernel
theorem d_L_replace_1 : decode b_L_replace 1 = .ok (.ifCond .lt 18, 3) := by decide +kernel
theorem d_L_replace_4 : decode b_L_replace 4 = .ok (.iload_n 1, 1) := by decide +kernel
theorem d_L_replace_5 : decode b_L_replace 5 = .ok (.aload_n 0, 1) := by decide +kernel
theorem d_L_replace_6 : decode b_L_replace 6 = .ok (.getfield 31, 3) := by decide +kernel
theorem d_L_replace_9 : decode b_L_replace 9 = .ok (.if_icmp .ge 10, 3) := by decide +kernel
theorem d_L_replace_12 : decode b_L_replace 12 = .ok (.aload_n 0, 1) := by decide +kernel
theorem d_L_replace_13 : decode b_L_replace 13 = .ok (.getfield 27, 3) := by decide +kernel
theorem d_L_replace_16 : decode b_L_replace 16 = .ok (.iload_n 1, 1) := by decide +kernel
theorem d_L_replace_17 : decode b_L_replace 17 = .ok (.aload_n 2, 1) := by decide +kernel
theorem d_L_replace_18 : decode b_L_replace 18 = .ok (.aastore, 1) := by decide +kernel
theorem d_L_replace_19 : decode b_L_replace 19 = .ok (.return_, 1) := by decide +kernel

abbrev b_L_originOf : ByteArray := prog_2_method_6_code
def y_L_originOf : MethodName := ⟨"RegistryLog$Ledger", "originOf", "(LRegistryLog$Name;)I"⟩
theorem d_L_originOf_0 : decode b_L_originOf 0 = .ok (.iconst (-1), 1) := by decide +kernel
theorem d_L_originOf_1 : decode b_L_originOf 1 = .ok (.istore_n 2, 1) := by decide +kernel
theorem d_L_originOf_2 : decode b_L_originOf 2 = .ok (.iconst 0, 1) := by decide +kernel
theorem d_L_originOf_3 : decode b_L_originOf 3 = .ok (.istore_n 3, 1) := by decide +kernel
theorem d_L_originOf_4 : decode b_L_originOf 4 = .ok (.iload_n 3, 1) := by decide +kernel
theorem d_L_originOf_5 : decode b_L_originOf 5 = .ok (.aload_n 0, 1) := by decide +kernel
theorem d_L_originOf_6 : decode b_L_originOf 6 = .ok (.getfield 31, 3) := by decide +kernel
theorem d_L_originOf_9 : decode b_L_originOf 9 = .ok (.if_icmp .ge 57, 3) := by decide +kernel
theorem d_L_originOf_12 : decode b_L_originOf 12 = .ok (.aload_n 0, 1) := by decide +kernel
theorem d_L_originOf_13 : decode b_L_originOf 13 = .ok (.iload_n 3, 1) := by decide +kernel
theorem d_L_originOf_14 : decode b_L_originOf 14 = .ok (.invokevirtual 35, 3) := by decide +kernel
theorem d_L_originOf_17 : decode b_L_originOf 17 = .ok (.astore 4, 2) := by decide +kernel
theorem d_L_originOf_19 : decode b_L_originOf 19 = .ok (.aload 4, 2) := by decide +kernel
theorem d_L_originOf_21 : decode b_L_originOf 21 = .ok (.getfield 39, 3) := by decide +kernel
theorem d_L_originOf_24 : decode b_L_originOf 24 = .ok (.iconst 3, 1) := by decide +kernel
theorem d_L_originOf_25 : decode b_L_originOf 25 = .ok (.if_icmp .ne 17, 3) := by decide +kernel
theorem d_L_originOf_28 : decode b_L_originOf 28 = .ok (.aload 4, 2) := by decide +kernel
theorem d_L_originOf_30 : decode b_L_originOf 30 = .ok (.getfield 42, 3) := by decide +kernel
theorem d_L_originOf_33 : decode b_L_originOf 33 = .ok (.aload_n 1, 1) := by decide +kernel
theorem d_L_originOf_34 : decode b_L_originOf 34 = .ok (.invokevirtual 46, 3) := by decide +kernel
theorem d_L_originOf_37 : decode b_L_originOf 37 = .ok (.ifCond .eq 5, 3) := by decide +kernel
theorem d_L_originOf_40 : decode b_L_originOf 40 = .ok (.iconst (-1), 1) := by decide +kernel
theorem d_L_originOf_41 : decode b_L_originOf 41 = .ok (.ireturn, 1) := by decide +kernel
theorem d_L_originOf_42 : decode b_L_originOf 42 = .ok (.aload 4, 2) := by decide +kernel
theorem d_L_originOf_44 : decode b_L_originOf 44 = .ok (.getfield 50, 3) := by decide +kernel
theorem d_L_originOf_47 : decode b_L_originOf 47 = .ok (.aload_n 1, 1) := by decide +kernel
theorem d_L_originOf_48 : decode b_L_originOf 48 = .ok (.invokevirtual 46, 3) := by decide +kernel
theorem d_L_originOf_51 : decode b_L_originOf 51 = .ok (.ifCond .eq 9, 3) := by decide +kernel
theorem d_L_originOf_54 : decode b_L_originOf 54 = .ok (.aload 4, 2) := by decide +kernel
theorem d_L_originOf_56 : decode b_L_originOf 56 = .ok (.getfield 53, 3) := by decide +kernel
theorem d_L_originOf_59 : decode b_L_originOf 59 = .ok (.istore_n 2, 1) := by decide +kernel
theorem d_L_originOf_60 : decode b_L_originOf 60 = .ok (.iinc 3 1, 3) := by decide +kernel
theorem d_L_originOf_63 : decode b_L_originOf 63 = .ok (.goto (-59), 3) := by decide +kernel
theorem d_L_originOf_66 : decode b_L_originOf 66 = .ok (.iload_n 2, 1) := by decide +kernel
theorem d_L_originOf_67 : decode b_L_originOf 67 = .ok (.ireturn, 1) := by decide +kernel

abbrev b_L_isFree : ByteArray := prog_2_method_7_code
def y_L_isFree : MethodName := ⟨"RegistryLog$Ledger", "isFree", "(LRegistryLog$Name;I)Z"⟩
theorem d_L_isFree_0 : decode b_L_isFree 0 = .ok (.iconst 0, 1) := by decide +kernel
theorem d_L_isFree_1 : decode b_L_isFree 1 = .ok (.istore_n 3, 1) := by decide +kernel
theorem d_L_isFree_2 : decode b_L_isFree 2 = .ok (.iload_n 3, 1) := by decide +kernel
theorem d_L_isFree_3 : decode b_L_isFree 3 = .ok (.aload_n 0, 1) := by decide +kernel
theorem d_L_isFree_4 : decode b_L_isFree 4 = .ok (.getfield 31, 3) := by decide +kernel
theorem d_L_isFree_7 : decode b_L_isFree 7 = .ok (.if_icmp .ge 66, 3) := by decide +kernel
theorem d_L_isFree_10 : decode b_L_isFree 10 = .ok (.aload_n 0, 1) := by decide +kernel
theorem d_L_isFree_11 : decode b_L_isFree 11 = .ok (.iload_n 3, 1) := by decide +kernel
theorem d_L_isFree_12 : decode b_L_isFree 12 = .ok (.invokevirtual 35, 3) := by decide +kernel
theorem d_L_isFree_15 : decode b_L_isFree 15 = .ok (.astore 4, 2) := by decide +kernel
theorem d_L_isFree_17 : decode b_L_isFree 17 = .ok (.aload 4, 2) := by decide +kernel
theorem d_L_isFree_19 : decode b_L_isFree 19 = .ok (.getfield 50, 3) := by decide +kernel
theorem d_L_isFree_22 : decode b_L_isFree 22 = .ok (.aload_n 1, 1) := by decide +kernel
theorem d_L_isFree_23 : decode b_L_isFree 23 = .ok (.invokevirtual 46, 3) := by decide +kernel
theorem d_L_isFree_26 : decode b_L_isFree 26 = .ok (.ifCond .eq 5, 3) := by decide +kernel
theorem d_L_isFree_29 : decode b_L_isFree 29 = .ok (.iconst 0, 1) := by decide +kernel
theorem d_L_isFree_30 : decode b_L_isFree 30 = .ok (.ireturn, 1) := by decide +kernel
theorem d_L_isFree_31 : decode b_L_isFree 31 = .ok (.aload 4, 2) := by decide +kernel
theorem d_L_isFree_33 : decode b_L_isFree 33 = .ok (.getfield 53, 3) := by decide +kernel
theorem d_L_isFree_36 : decode b_L_isFree 36 = .ok (.iload_n 2, 1) := by decide +kernel
theorem d_L_isFree_37 : decode b_L_isFree 37 = .ok (.if_icmp .eq 30, 3) := by decide +kernel
theorem d_L_isFree_40 : decode b_L_isFree 40 = .ok (.aload 4, 2) := by decide +kernel
theorem d_L_isFree_42 : decode b_L_isFree 42 = .ok (.getfield 50, 3) := by decide +kernel
theorem d_L_isFree_45 : decode b_L_isFree 45 = .ok (.aload_n 1, 1) := by decide +kernel
theorem d_L_isFree_46 : decode b_L_isFree 46 = .ok (.invokevirtual 56, 3) := by decide +kernel
theorem d_L_isFree_49 : decode b_L_isFree 49 = .ok (.ifCond .eq 18, 3) := by decide +kernel
theorem d_L_isFree_52 : decode b_L_isFree 52 = .ok (.aload_n 0, 1) := by decide +kernel
theorem d_L_isFree_53 : decode b_L_isFree 53 = .ok (.aload 4, 2) := by decide +kernel
theorem d_L_isFree_55 : decode b_L_isFree 55 = .ok (.getfield 50, 3) := by decide +kernel
theorem d_L_isFree_58 : decode b_L_isFree 58 = .ok (.invokevirtual 59, 3) := by decide +kernel
theorem d_L_isFree_61 : decode b_L_isFree 61 = .ok (.iconst (-1), 1) := by decide +kernel
theorem d_L_isFree_62 : decode b_L_isFree 62 = .ok (.if_icmp .eq 5, 3) := by decide +kernel
theorem d_L_isFree_65 : decode b_L_isFree 65 = .ok (.iconst 0, 1) := by decide +kernel
theorem d_L_isFree_66 : decode b_L_isFree 66 = .ok (.ireturn, 1) := by decide +kernel
theorem d_L_isFree_67 : decode b_L_isFree 67 = .ok (.iinc 3 1, 3) := by decide +kernel
theorem d_L_isFree_70 : decode b_L_isFree 70 = .ok (.goto (-68), 3) := by decide +kernel
theorem d_L_isFree_73 : decode b_L_isFree 73 = .ok (.iconst 1, 1) := by decide +kernel
theorem d_L_isFree_74 : decode b_L_isFree 74 = .ok (.ireturn, 1) := by decide +kernel

abbrev b_L_founderOf : ByteArray := prog_2_method_8_code
def y_L_founderOf : MethodName := ⟨"RegistryLog$Ledger", "founderOf", "(I)I"⟩
theorem d_L_founderOf_0 : decode b_L_founderOf 0 = .ok (.aload_n 0, 1) := by decide +kernel
theorem d_L_founderOf_1 : decode b_L_founderOf 1 = .ok (.iload_n 1, 1) := by decide +kernel
theorem d_L_founderOf_2 : decode b_L_founderOf 2 = .ok (.invokevirtual 35, 3) := by decide +kernel
theorem d_L_founderOf_5 : decode b_L_founderOf 5 = .ok (.getfield 63, 3) := by decide +kernel
theorem d_L_founderOf_8 : decode b_L_founderOf 8 = .ok (.ireturn, 1) := by decide +kernel

abbrev b_L_hasRight : ByteArray := prog_2_method_9_code
def y_L_hasRight : MethodName := ⟨"RegistryLog$Ledger", "hasRight", "(II)Z"⟩
theorem d_L_hasRight_0 : decode b_L_hasRight 0 = .ok (.iload_n 1, 1) := by decide +kernel
theorem d_L_hasRight_1 : decode b_L_hasRight 1 = .ok (.iconst (-1), 1) := by decide +kernel
theorem d_L_hasRight_2 : decode b_L_hasRight 2 = .ok (.if_icmp .eq 16, 3) := by decide +kernel
theorem d_L_hasRight_5 : decode b_L_hasRight 5 = .ok (.aload_n 0, 1) := by decide +kernel
theorem d_L_hasRight_6 : decode b_L_hasRight 6 = .ok (.iload_n 1, 1) := by decide +kernel
theorem d_L_hasRight_7 : decode b_L_hasRight 7 = .ok (.invokevirtual 66, 3) := by decide +kernel
theorem d_L_hasRight_10 : decode b_L_hasRight 10 = .ok (.iload_n 2, 1) := by decide +kernel
theorem d_L_hasRight_11 : decode b_L_hasRight 11 = .ok (.if_icmp .ne 7, 3) := by decide +kernel
theorem d_L_hasRight_14 : decode b_L_hasRight 14 = .ok (.iconst 1, 1) := by decide +kernel
theorem d_L_hasRight_15 : decode b_L_hasRight 15 = .ok (.goto 4, 3) := by decide +kernel
theorem d_L_hasRight_18 : decode b_L_hasRight 18 = .ok (.iconst 0, 1) := by decide +kernel
theorem d_L_hasRight_19 : decode b_L_hasRight 19 = .ok (.istore_n 3, 1) := by decide +kernel
theorem d_L_hasRight_20 : decode b_L_hasRight 20 = .ok (.iconst 0, 1) := by decide +kernel
theorem d_L_hasRight_21 : decode b_L_hasRight 21 = .ok (.istore 4, 2) := by decide +kernel
theorem d_L_hasRight_23 : decode b_L_hasRight 23 = .ok (.iload 4, 2) := by decide +kernel
theorem d_L_hasRight_25 : decode b_L_hasRight 25 = .ok (.aload_n 0, 1) := by decide +kernel
theorem d_L_hasRight_26 : decode b_L_hasRight 26 = .ok (.getfield 31, 3) := by decide +kernel
theorem d_L_hasRight_29 : decode b_L_hasRight 29 = .ok (.if_icmp .ge 59, 3) := by decide +kernel
theorem d_L_hasRight_32 : decode b_L_hasRight 32 = .ok (.aload_n 0, 1) := by decide +kernel
theorem d_L_hasRight_33 : decode b_L_hasRight 33 = .ok (.iload 4, 2) := by decide +kernel
theorem d_L_hasRight_35 : decode b_L_hasRight 35 = .ok (.invokevirtual 35, 3) := by decide +kernel
theorem d_L_hasRight_38 : decode b_L_hasRight 38 = .ok (.astore 5, 2) := by decide +kernel
theorem d_L_hasRight_40 : decode b_L_hasRight 40 = .ok (.aload 5, 2) := by decide +kernel
theorem d_L_hasRight_42 : decode b_L_hasRight 42 = .ok (.getfield 39, 3) := by decide +kernel
theorem d_L_hasRight_45 : decode b_L_hasRight 45 = .ok (.iconst 2, 1) := by decide +kernel
theorem d_L_hasRight_46 : decode b_L_hasRight 46 = .ok (.if_icmp .ne 36, 3) := by decide +kernel
theorem d_L_hasRight_49 : decode b_L_hasRight 49 = .ok (.aload 5, 2) := by decide +kernel
theorem d_L_hasRight_51 : decode b_L_hasRight 51 = .ok (.getfield 53, 3) := by decide +kernel
theorem d_L_hasRight_54 : decode b_L_hasRight 54 = .ok (.iload_n 1, 1) := by decide +kernel
theorem d_L_hasRight_55 : decode b_L_hasRight 55 = .ok (.if_icmp .ne 27, 3) := by decide +kernel
theorem d_L_hasRight_58 : decode b_L_hasRight 58 = .ok (.aload 5, 2) := by decide +kernel
theorem d_L_hasRight_60 : decode b_L_hasRight 60 = .ok (.getfield 70, 3) := by decide +kernel
theorem d_L_hasRight_63 : decode b_L_hasRight 63 = .ok (.iload_n 2, 1) := by decide +kernel
theorem d_L_hasRight_64 : decode b_L_hasRight 64 = .ok (.if_icmp .ne 18, 3) := by decide +kernel
theorem d_L_hasRight_67 : decode b_L_hasRight 67 = .ok (.aload 5, 2) := by decide +kernel
theorem d_L_hasRight_69 : decode b_L_hasRight 69 = .ok (.getfield 73, 3) := by decide +kernel
theorem d_L_hasRight_72 : decode b_L_hasRight 72 = .ok (.iconst 1, 1) := by decide +kernel
theorem d_L_hasRight_73 : decode b_L_hasRight 73 = .ok (.if_icmp .ne 7, 3) := by decide +kernel
theorem d_L_hasRight_76 : decode b_L_hasRight 76 = .ok (.iconst 1, 1) := by decide +kernel
theorem d_L_hasRight_77 : decode b_L_hasRight 77 = .ok (.goto 4, 3) := by decide +kernel
theorem d_L_hasRight_80 : decode b_L_hasRight 80 = .ok (.iconst 0, 1) := by decide +kernel
theorem d_L_hasRight_81 : decode b_L_hasRight 81 = .ok (.istore_n 3, 1) := by decide +kernel
theorem d_L_hasRight_82 : decode b_L_hasRight 82 = .ok (.iinc 4 1, 3) := by decide +kernel
theorem d_L_hasRight_85 : decode b_L_hasRight 85 = .ok (.goto (-62), 3) := by decide +kernel
theorem d_L_hasRight_88 : decode b_L_hasRight 88 = .ok (.iload_n 3, 1) := by decide +kernel
theorem d_L_hasRight_89 : decode b_L_hasRight 89 = .ok (.ireturn, 1) := by decide +kernel

abbrev b_L_publishOf : ByteArray := prog_2_method_10_code
def y_L_publishOf : MethodName := ⟨"RegistryLog$Ledger", "publishOf", "(II)I"⟩
theorem d_L_publishOf_0 : decode b_L_publishOf 0 = .ok (.iconst 0, 1) := by decide +kernel
theorem d_L_publishOf_1 : decode b_L_publishOf 1 = .ok (.istore_n 3, 1) := by decide +kernel
theorem d_L_publishOf_2 : decode b_L_publishOf 2 = .ok (.iload_n 3, 1) := by decide +kernel
theorem d_L_publishOf_3 : decode b_L_publishOf 3 = .ok (.aload_n 0, 1) := by decide +kernel
theorem d_L_publishOf_4 : decode b_L_publishOf 4 = .ok (.getfield 31, 3) := by decide +kernel
theorem d_L_publishOf_7 : decode b_L_publishOf 7 = .ok (.if_icmp .ge 44, 3) := by decide +kernel
theorem d_L_publishOf_10 : decode b_L_publishOf 10 = .ok (.aload_n 0, 1) := by decide +kernel
theorem d_L_publishOf_11 : decode b_L_publishOf 11 = .ok (.iload_n 3, 1) := by decide +kernel
theorem d_L_publishOf_12 : decode b_L_publishOf 12 = .ok (.invokevirtual 35, 3) := by decide +kernel
theorem d_L_publishOf_15 : decode b_L_publishOf 15 = .ok (.astore 4, 2) := by decide +kernel
theorem d_L_publishOf_17 : decode b_L_publishOf 17 = .ok (.aload 4, 2) := by decide +kernel
theorem d_L_publishOf_19 : decode b_L_publishOf 19 = .ok (.getfield 39, 3) := by decide +kernel
theorem d_L_publishOf_22 : decode b_L_publishOf 22 = .ok (.ifCond .ne 23, 3) := by decide +kernel
theorem d_L_publishOf_25 : decode b_L_publishOf 25 = .ok (.aload 4, 2) := by decide +kernel
theorem d_L_publishOf_27 : decode b_L_publishOf 27 = .ok (.getfield 53, 3) := by decide +kernel
theorem d_L_publishOf_30 : decode b_L_publishOf 30 = .ok (.iload_n 1, 1) := by decide +kernel
theorem d_L_publishOf_31 : decode b_L_publishOf 31 = .ok (.if_icmp .ne 14, 3) := by decide +kernel
theorem d_L_publishOf_34 : decode b_L_publishOf 34 = .ok (.aload 4, 2) := by decide +kernel
theorem d_L_publishOf_36 : decode b_L_publishOf 36 = .ok (.getfield 70, 3) := by decide +kernel
theorem d_L_publishOf_39 : decode b_L_publishOf 39 = .ok (.iload_n 2, 1) := by decide +kernel
theorem d_L_publishOf_40 : decode b_L_publishOf 40 = .ok (.if_icmp .ne 5, 3) := by decide +kernel
theorem d_L_publishOf_43 : decode b_L_publishOf 43 = .ok (.iload_n 3, 1) := by decide +kernel
theorem d_L_publishOf_44 : decode b_L_publishOf 44 = .ok (.ireturn, 1) := by decide +kernel
theorem d_L_publishOf_45 : decode b_L_publishOf 45 = .ok (.iinc 3 1, 3) := by decide +kernel
theorem d_L_publishOf_48 : decode b_L_publishOf 48 = .ok (.goto (-46), 3) := by decide +kernel
theorem d_L_publishOf_51 : decode b_L_publishOf 51 = .ok (.iconst (-1), 1) := by decide +kernel
theorem d_L_publishOf_52 : decode b_L_publishOf 52 = .ok (.ireturn, 1) := by decide +kernel

abbrev b_L_isYanked : ByteArray := prog_2_method_11_code
def y_L_isYanked : MethodName := ⟨"RegistryLog$Ledger", "isYanked", "(II)Z"⟩
theorem d_L_isYanked_0 : decode b_L_isYanked 0 = .ok (.iconst 0, 1) := by decide +kernel
theorem d_L_isYanked_1 : decode b_L_isYanked 1 = .ok (.istore_n 3, 1) := by decide +kernel
theorem d_L_isYanked_2 : decode b_L_isYanked 2 = .ok (.iconst 0, 1) := by decide +kernel
theorem d_L_isYanked_3 : decode b_L_isYanked 3 = .ok (.istore 4, 2) := by decide +kernel
theorem d_L_isYanked_5 : decode b_L_isYanked 5 = .ok (.iload 4, 2) := by decide +kernel
theorem d_L_isYanked_7 : decode b_L_isYanked 7 = .ok (.aload_n 0, 1) := by decide +kernel
theorem d_L_isYanked_8 : decode b_L_isYanked 8 = .ok (.getfield 31, 3) := by decide +kernel
theorem d_L_isYanked_11 : decode b_L_isYanked 11 = .ok (.if_icmp .ge 59, 3) := by decide +kernel
theorem d_L_isYanked_14 : decode b_L_isYanked 14 = .ok (.aload_n 0, 1) := by decide +kernel
theorem d_L_isYanked_15 : decode b_L_isYanked 15 = .ok (.iload 4, 2) := by decide +kernel
theorem d_L_isYanked_17 : decode b_L_isYanked 17 = .ok (.invokevirtual 35, 3) := by decide +kernel
theorem d_L_isYanked_20 : decode b_L_isYanked 20 = .ok (.astore 5, 2) := by decide +kernel
theorem d_L_isYanked_22 : decode b_L_isYanked 22 = .ok (.aload 5, 2) := by decide +kernel
theorem d_L_isYanked_24 : decode b_L_isYanked 24 = .ok (.getfield 39, 3) := by decide +kernel
theorem d_L_isYanked_27 : decode b_L_isYanked 27 = .ok (.iconst 1, 1) := by decide +kernel
theorem d_L_isYanked_28 : decode b_L_isYanked 28 = .ok (.if_icmp .ne 36, 3) := by decide +kernel
theorem d_L_isYanked_31 : decode b_L_isYanked 31 = .ok (.aload 5, 2) := by decide +kernel
theorem d_L_isYanked_33 : decode b_L_isYanked 33 = .ok (.getfield 53, 3) := by decide +kernel
theorem d_L_isYanked_36 : decode b_L_isYanked 36 = .ok (.iload_n 1, 1) := by decide +kernel
theorem d_L_isYanked_37 : decode b_L_isYanked 37 = .ok (.if_icmp .ne 27, 3) := by decide +kernel
theorem d_L_isYanked_40 : decode b_L_isYanked 40 = .ok (.aload 5, 2) := by decide +kernel
theorem d_L_isYanked_42 : decode b_L_isYanked 42 = .ok (.getfield 70, 3) := by decide +kernel
theorem d_L_isYanked_45 : decode b_L_isYanked 45 = .ok (.iload_n 2, 1) := by decide +kernel
theorem d_L_isYanked_46 : decode b_L_isYanked 46 = .ok (.if_icmp .ne 18, 3) := by decide +kernel
theorem d_L_isYanked_49 : decode b_L_isYanked 49 = .ok (.aload 5, 2) := by decide +kernel
theorem d_L_isYanked_51 : decode b_L_isYanked 51 = .ok (.getfield 73, 3) := by decide +kernel
theorem d_L_isYanked_54 : decode b_L_isYanked 54 = .ok (.iconst 1, 1) := by decide +kernel
theorem d_L_isYanked_55 : decode b_L_isYanked 55 = .ok (.if_icmp .ne 7, 3) := by decide +kernel
theorem d_L_isYanked_58 : decode b_L_isYanked 58 = .ok (.iconst 1, 1) := by decide +kernel
theorem d_L_isYanked_59 : decode b_L_isYanked 59 = .ok (.goto 4, 3) := by decide +kernel
theorem d_L_isYanked_62 : decode b_L_isYanked 62 = .ok (.iconst 0, 1) := by decide +kernel
theorem d_L_isYanked_63 : decode b_L_isYanked 63 = .ok (.istore_n 3, 1) := by decide +kernel
theorem d_L_isYanked_64 : decode b_L_isYanked 64 = .ok (.iinc 4 1, 3) := by decide +kernel
theorem d_L_isYanked_67 : decode b_L_isYanked 67 = .ok (.goto (-62), 3) := by decide +kernel
theorem d_L_isYanked_70 : decode b_L_isYanked 70 = .ok (.iload_n 3, 1) := by decide +kernel
theorem d_L_isYanked_71 : decode b_L_isYanked 71 = .ok (.ireturn, 1) := by decide +kernel

abbrev b_N_init : ByteArray := prog_3_method_1_code
def y_N_init : MethodName := ⟨"RegistryLog$Name", "<init>", "(Ljava/lang/String;)V"⟩
theorem d_N_init_0 : decode b_N_init 0 = .ok (.aload_n 0, 1) := by decide +kernel
theorem d_N_init_1 : decode b_N_init 1 = .ok (.invokespecial 3, 3) := by decide +kernel
theorem d_N_init_4 : decode b_N_init 4 = .ok (.aload_n 0, 1) := by decide +kernel
theorem d_N_init_5 : decode b_N_init 5 = .ok (.aload_n 1, 1) := by decide +kernel
theorem d_N_init_6 : decode b_N_init 6 = .ok (.putfield 9, 3) := by decide +kernel
theorem d_N_init_9 : decode b_N_init 9 = .ok (.aload_n 0, 1) := by decide +kernel
theorem d_N_init_10 : decode b_N_init 10 = .ok (.aload_n 1, 1) := by decide +kernel
theorem d_N_init_11 : decode b_N_init 11 = .ok (.invokestatic 15, 3) := by decide +kernel
theorem d_N_init_14 : decode b_N_init 14 = .ok (.putfield 19, 3) := by decide +kernel
theorem d_N_init_17 : decode b_N_init 17 = .ok (.return_, 1) := by decide +kernel

abbrev b_N_isName : ByteArray := prog_3_method_2_code
def y_N_isName : MethodName := ⟨"RegistryLog$Name", "isName", "()Z"⟩
theorem d_N_isName_0 : decode b_N_isName 0 = .ok (.aload_n 0, 1) := by decide +kernel
theorem d_N_isName_1 : decode b_N_isName 1 = .ok (.getfield 9, 3) := by decide +kernel
theorem d_N_isName_4 : decode b_N_isName 4 = .ok (.invokevirtual 22, 3) := by decide +kernel
theorem d_N_isName_7 : decode b_N_isName 7 = .ok (.istore_n 1, 1) := by decide +kernel
theorem d_N_isName_8 : decode b_N_isName 8 = .ok (.iload_n 1, 1) := by decide +kernel
theorem d_N_isName_9 : decode b_N_isName 9 = .ok (.iconst 1, 1) := by decide +kernel
theorem d_N_isName_10 : decode b_N_isName 10 = .ok (.if_icmp .lt 9, 3) := by decide +kernel
theorem d_N_isName_13 : decode b_N_isName 13 = .ok (.iload_n 1, 1) := by decide +kernel
theorem d_N_isName_14 : decode b_N_isName 14 = .ok (.bipush 10, 2) := by decide +kernel
theorem d_N_isName_16 : decode b_N_isName 16 = .ok (.if_icmp .le 5, 3) := by decide +kernel
theorem d_N_isName_19 : decode b_N_isName 19 = .ok (.iconst 0, 1) := by decide +kernel
theorem d_N_isName_20 : decode b_N_isName 20 = .ok (.ireturn, 1) := by decide +kernel
theorem d_N_isName_21 : decode b_N_isName 21 = .ok (.iconst 0, 1) := by decide +kernel
theorem d_N_isName_22 : decode b_N_isName 22 = .ok (.istore_n 2, 1) := by decide +kernel
theorem d_N_isName_23 : decode b_N_isName 23 = .ok (.iconst 0, 1) := by decide +kernel
theorem d_N_isName_24 : decode b_N_isName 24 = .ok (.istore_n 3, 1) := by decide +kernel
theorem d_N_isName_25 : decode b_N_isName 25 = .ok (.iload_n 3, 1) := by decide +kernel
theorem d_N_isName_26 : decode b_N_isName 26 = .ok (.iload_n 1, 1) := by decide +kernel
theorem d_N_isName_27 : decode b_N_isName 27 = .ok (.if_icmp .ge 61, 3) := by decide +kernel
theorem d_N_isName_30 : decode b_N_isName 30 = .ok (.aload_n 0, 1) := by decide +kernel
theorem d_N_isName_31 : decode b_N_isName 31 = .ok (.getfield 9, 3) := by decide +kernel
theorem d_N_isName_34 : decode b_N_isName 34 = .ok (.iload_n 3, 1) := by decide +kernel
theorem d_N_isName_35 : decode b_N_isName 35 = .ok (.invokevirtual 28, 3) := by decide +kernel
theorem d_N_isName_38 : decode b_N_isName 38 = .ok (.istore 4, 2) := by decide +kernel
theorem d_N_isName_40 : decode b_N_isName 40 = .ok (.iload 4, 2) := by decide +kernel
theorem d_N_isName_42 : decode b_N_isName 42 = .ok (.bipush 97, 2) := by decide +kernel
theorem d_N_isName_44 : decode b_N_isName 44 = .ok (.if_icmp .lt 14, 3) := by decide +kernel
theorem d_N_isName_47 : decode b_N_isName 47 = .ok (.iload 4, 2) := by decide +kernel
theorem d_N_isName_49 : decode b_N_isName 49 = .ok (.bipush 122, 2) := by decide +kernel
theorem d_N_isName_51 : decode b_N_isName 51 = .ok (.if_icmp .gt 7, 3) := by decide +kernel
theorem d_N_isName_54 : decode b_N_isName 54 = .ok (.iconst 1, 1) := by decide +kernel
theorem d_N_isName_55 : decode b_N_isName 55 = .ok (.goto 4, 3) := by decide +kernel
theorem d_N_isName_58 : decode b_N_isName 58 = .ok (.iconst 0, 1) := by decide +kernel
theorem d_N_isName_59 : decode b_N_isName 59 = .ok (.istore 5, 2) := by decide +kernel
theorem d_N_isName_61 : decode b_N_isName 61 = .ok (.iload 5, 2) := by decide +kernel
theorem d_N_isName_63 : decode b_N_isName 63 = .ok (.ifCond .ne 16, 3) := by decide +kernel
theorem d_N_isName_66 : decode b_N_isName 66 = .ok (.iload 4, 2) := by decide +kernel
theorem d_N_isName_68 : decode b_N_isName 68 = .ok (.bipush 45, 2) := by decide +kernel
theorem d_N_isName_70 : decode b_N_isName 70 = .ok (.if_icmp .ne 7, 3) := by decide +kernel
theorem d_N_isName_73 : decode b_N_isName 73 = .ok (.iload_n 2, 1) := by decide +kernel
theorem d_N_isName_74 : decode b_N_isName 74 = .ok (.ifCond .ne 5, 3) := by decide +kernel
theorem d_N_isName_77 : decode b_N_isName 77 = .ok (.iconst 0, 1) := by decide +kernel
theorem d_N_isName_78 : decode b_N_isName 78 = .ok (.ireturn, 1) := by decide +kernel
theorem d_N_isName_79 : decode b_N_isName 79 = .ok (.iload 5, 2) := by decide +kernel
theorem d_N_isName_81 : decode b_N_isName 81 = .ok (.istore_n 2, 1) := by decide +kernel
theorem d_N_isName_82 : decode b_N_isName 82 = .ok (.iinc 3 1, 3) := by decide +kernel
theorem d_N_isName_85 : decode b_N_isName 85 = .ok (.goto (-60), 3) := by decide +kernel
theorem d_N_isName_88 : decode b_N_isName 88 = .ok (.iload_n 2, 1) := by decide +kernel
theorem d_N_isName_89 : decode b_N_isName 89 = .ok (.ireturn, 1) := by decide +kernel

abbrev b_N_isSame : ByteArray := prog_3_method_3_code
def y_N_isSame : MethodName := ⟨"RegistryLog$Name", "isSame", "(LRegistryLog$Name;)Z"⟩
theorem d_N_isSame_0 : decode b_N_isSame 0 = .ok (.aload_n 0, 1) := by decide +kernel
theorem d_N_isSame_1 : decode b_N_isSame 1 = .ok (.getfield 9, 3) := by decide +kernel
theorem d_N_isSame_4 : decode b_N_isSame 4 = .ok (.aload_n 1, 1) := by decide +kernel
theorem d_N_isSame_5 : decode b_N_isSame 5 = .ok (.getfield 9, 3) := by decide +kernel
theorem d_N_isSame_8 : decode b_N_isSame 8 = .ok (.invokevirtual 32, 3) := by decide +kernel
theorem d_N_isSame_11 : decode b_N_isSame 11 = .ok (.ireturn, 1) := by decide +kernel

abbrev b_N_isNear : ByteArray := prog_3_method_4_code
def y_N_isNear : MethodName := ⟨"RegistryLog$Name", "isNear", "(LRegistryLog$Name;)Z"⟩
theorem d_N_isNear_0 : decode b_N_isNear 0 = .ok (.aload_n 0, 1) := by decide +kernel
theorem d_N_isNear_1 : decode b_N_isNear 1 = .ok (.getfield 19, 3) := by decide +kernel
theorem d_N_isNear_4 : decode b_N_isNear 4 = .ok (.invokevirtual 22, 3) := by decide +kernel
theorem d_N_isNear_7 : decode b_N_isNear 7 = .ok (.istore_n 2, 1) := by decide +kernel
theorem d_N_isNear_8 : decode b_N_isNear 8 = .ok (.aload_n 1, 1) := by decide +kernel
theorem d_N_isNear_9 : decode b_N_isNear 9 = .ok (.getfield 19, 3) := by decide +kernel
theorem d_N_isNear_12 : decode b_N_isNear 12 = .ok (.invokevirtual 22, 3) := by decide +kernel
theorem d_N_isNear_15 : decode b_N_isNear 15 = .ok (.istore_n 3, 1) := by decide +kernel
theorem d_N_isNear_16 : decode b_N_isNear 16 = .ok (.iload_n 2, 1) := by decide +kernel
theorem d_N_isNear_17 : decode b_N_isNear 17 = .ok (.iload_n 3, 1) := by decide +kernel
theorem d_N_isNear_18 : decode b_N_isNear 18 = .ok (.isub, 1) := by decide +kernel
theorem d_N_isNear_19 : decode b_N_isNear 19 = .ok (.invokestatic 36, 3) := by decide +kernel
theorem d_N_isNear_22 : decode b_N_isNear 22 = .ok (.iconst 1, 1) := by decide +kernel
theorem d_N_isNear_23 : decode b_N_isNear 23 = .ok (.if_icmp .le 5, 3) := by decide +kernel
theorem d_N_isNear_26 : decode b_N_isNear 26 = .ok (.iconst 0, 1) := by decide +kernel
theorem d_N_isNear_27 : decode b_N_isNear 27 = .ok (.ireturn, 1) := by decide +kernel
theorem d_N_isNear_28 : decode b_N_isNear 28 = .ok (.aload_n 0, 1) := by decide +kernel
theorem d_N_isNear_29 : decode b_N_isNear 29 = .ok (.getfield 19, 3) := by decide +kernel
theorem d_N_isNear_32 : decode b_N_isNear 32 = .ok (.aload_n 1, 1) := by decide +kernel
theorem d_N_isNear_33 : decode b_N_isNear 33 = .ok (.getfield 19, 3) := by decide +kernel
theorem d_N_isNear_36 : decode b_N_isNear 36 = .ok (.invokestatic 42, 3) := by decide +kernel
theorem d_N_isNear_39 : decode b_N_isNear 39 = .ok (.aload_n 0, 1) := by decide +kernel
theorem d_N_isNear_40 : decode b_N_isNear 40 = .ok (.getfield 19, 3) := by decide +kernel
theorem d_N_isNear_43 : decode b_N_isNear 43 = .ok (.aload_n 1, 1) := by decide +kernel
theorem d_N_isNear_44 : decode b_N_isNear 44 = .ok (.getfield 19, 3) := by decide +kernel
theorem d_N_isNear_47 : decode b_N_isNear 47 = .ok (.invokestatic 46, 3) := by decide +kernel
theorem d_N_isNear_50 : decode b_N_isNear 50 = .ok (.iadd, 1) := by decide +kernel
theorem d_N_isNear_51 : decode b_N_isNear 51 = .ok (.iload_n 2, 1) := by decide +kernel
theorem d_N_isNear_52 : decode b_N_isNear 52 = .ok (.iload_n 3, 1) := by decide +kernel
theorem d_N_isNear_53 : decode b_N_isNear 53 = .ok (.invokestatic 49, 3) := by decide +kernel
theorem d_N_isNear_56 : decode b_N_isNear 56 = .ok (.iconst 1, 1) := by decide +kernel
theorem d_N_isNear_57 : decode b_N_isNear 57 = .ok (.isub, 1) := by decide +kernel
theorem d_N_isNear_58 : decode b_N_isNear 58 = .ok (.if_icmp .lt 7, 3) := by decide +kernel
theorem d_N_isNear_61 : decode b_N_isNear 61 = .ok (.iconst 1, 1) := by decide +kernel
theorem d_N_isNear_62 : decode b_N_isNear 62 = .ok (.goto 4, 3) := by decide +kernel
theorem d_N_isNear_65 : decode b_N_isNear 65 = .ok (.iconst 0, 1) := by decide +kernel
theorem d_N_isNear_66 : decode b_N_isNear 66 = .ok (.ireturn, 1) := by decide +kernel

abbrev b_N_fold : ByteArray := prog_3_method_5_code
def y_N_fold : MethodName := ⟨"RegistryLog$Name", "fold", "(Ljava/lang/String;)Ljava/lang/String;"⟩
theorem d_N_fold_0 : decode b_N_fold 0 = .ok (.new 53, 3) := by decide +kernel
theorem d_N_fold_3 : decode b_N_fold 3 = .ok (.dup, 1) := by decide +kernel
theorem d_N_fold_4 : decode b_N_fold 4 = .ok (.invokespecial 55, 3) := by decide +kernel
theorem d_N_fold_7 : decode b_N_fold 7 = .ok (.astore_n 1, 1) := by decide +kernel
theorem d_N_fold_8 : decode b_N_fold 8 = .ok (.iconst 0, 1) := by decide +kernel
theorem d_N_fold_9 : decode b_N_fold 9 = .ok (.istore_n 2, 1) := by decide +kernel
theorem d_N_fold_10 : decode b_N_fold 10 = .ok (.iload_n 2, 1) := by decide +kernel
theorem d_N_fold_11 : decode b_N_fold 11 = .ok (.aload_n 0, 1) := by decide +kernel
theorem d_N_fold_12 : decode b_N_fold 12 = .ok (.invokevirtual 22, 3) := by decide +kernel
theorem d_N_fold_15 : decode b_N_fold 15 = .ok (.if_icmp .ge 27, 3) := by decide +kernel
theorem d_N_fold_18 : decode b_N_fold 18 = .ok (.aload_n 0, 1) := by decide +kernel
theorem d_N_fold_19 : decode b_N_fold 19 = .ok (.iload_n 2, 1) := by decide +kernel
theorem d_N_fold_20 : decode b_N_fold 20 = .ok (.invokevirtual 28, 3) := by decide +kernel
theorem d_N_fold_23 : decode b_N_fold 23 = .ok (.istore_n 3, 1) := by decide +kernel
theorem d_N_fold_24 : decode b_N_fold 24 = .ok (.iload_n 3, 1) := by decide +kernel
theorem d_N_fold_25 : decode b_N_fold 25 = .ok (.bipush 45, 2) := by decide +kernel
theorem d_N_fold_27 : decode b_N_fold 27 = .ok (.if_icmp .eq 9, 3) := by decide +kernel
theorem d_N_fold_30 : decode b_N_fold 30 = .ok (.aload_n 1, 1) := by decide +kernel
theorem d_N_fold_31 : decode b_N_fold 31 = .ok (.iload_n 3, 1) := by decide +kernel
theorem d_N_fold_32 : decode b_N_fold 32 = .ok (.invokevirtual 56, 3) := by decide +kernel
theorem d_N_fold_35 : decode b_N_fold 35 = .ok (.pop, 1) := by decide +kernel
theorem d_N_fold_36 : decode b_N_fold 36 = .ok (.iinc 2 1, 3) := by decide +kernel
theorem d_N_fold_39 : decode b_N_fold 39 = .ok (.goto (-29), 3) := by decide +kernel
theorem d_N_fold_42 : decode b_N_fold 42 = .ok (.aload_n 1, 1) := by decide +kernel
theorem d_N_fold_43 : decode b_N_fold 43 = .ok (.invokevirtual 60, 3) := by decide +kernel
theorem d_N_fold_46 : decode b_N_fold 46 = .ok (.areturn, 1) := by decide +kernel

abbrev b_N_commonBeginning : ByteArray := prog_3_method_6_code
def y_N_commonBeginning : MethodName := ⟨"RegistryLog$Name", "commonBeginning", "(Ljava/lang/String;Ljava/lang/String;)I"⟩
theorem d_N_commonBeginning_0 : decode b_N_commonBeginning 0 = .ok (.aload_n 0, 1) := by decide +kernel
theorem d_N_commonBeginning_1 : decode b_N_commonBeginning 1 = .ok (.invokevirtual 22, 3) := by decide +kernel
theorem d_N_commonBeginning_4 : decode b_N_commonBeginning 4 = .ok (.aload_n 1, 1) := by decide +kernel
theorem d_N_commonBeginning_5 : decode b_N_commonBeginning 5 = .ok (.invokevirtual 22, 3) := by decide +kernel
theorem d_N_commonBeginning_8 : decode b_N_commonBeginning 8 = .ok (.invokestatic 64, 3) := by decide +kernel
theorem d_N_commonBeginning_11 : decode b_N_commonBeginning 11 = .ok (.istore_n 2, 1) := by decide +kernel
theorem d_N_commonBeginning_12 : decode b_N_commonBeginning 12 = .ok (.iconst 0, 1) := by decide +kernel
theorem d_N_commonBeginning_13 : decode b_N_commonBeginning 13 = .ok (.istore_n 3, 1) := by decide +kernel
theorem d_N_commonBeginning_14 : decode b_N_commonBeginning 14 = .ok (.iload_n 3, 1) := by decide +kernel
theorem d_N_commonBeginning_15 : decode b_N_commonBeginning 15 = .ok (.iload_n 2, 1) := by decide +kernel
theorem d_N_commonBeginning_16 : decode b_N_commonBeginning 16 = .ok (.if_icmp .ge 24, 3) := by decide +kernel
theorem d_N_commonBeginning_19 : decode b_N_commonBeginning 19 = .ok (.aload_n 0, 1) := by decide +kernel
theorem d_N_commonBeginning_20 : decode b_N_commonBeginning 20 = .ok (.iload_n 3, 1) := by decide +kernel
theorem d_N_commonBeginning_21 : decode b_N_commonBeginning 21 = .ok (.invokevirtual 28, 3) := by decide +kernel
theorem d_N_commonBeginning_24 : decode b_N_commonBeginning 24 = .ok (.aload_n 1, 1) := by decide +kernel
theorem d_N_commonBeginning_25 : decode b_N_commonBeginning 25 = .ok (.iload_n 3, 1) := by decide +kernel
theorem d_N_commonBeginning_26 : decode b_N_commonBeginning 26 = .ok (.invokevirtual 28, 3) := by decide +kernel
theorem d_N_commonBeginning_29 : decode b_N_commonBeginning 29 = .ok (.if_icmp .eq 5, 3) := by decide +kernel
theorem d_N_commonBeginning_32 : decode b_N_commonBeginning 32 = .ok (.iload_n 3, 1) := by decide +kernel
theorem d_N_commonBeginning_33 : decode b_N_commonBeginning 33 = .ok (.ireturn, 1) := by decide +kernel
theorem d_N_commonBeginning_34 : decode b_N_commonBeginning 34 = .ok (.iinc 3 1, 3) := by decide +kernel
theorem d_N_commonBeginning_37 : decode b_N_commonBeginning 37 = .ok (.goto (-23), 3) := by decide +kernel
theorem d_N_commonBeginning_40 : decode b_N_commonBeginning 40 = .ok (.iload_n 2, 1) := by decide +kernel
theorem d_N_commonBeginning_41 : decode b_N_commonBeginning 41 = .ok (.ireturn, 1) := by decide +kernel

abbrev b_N_commonEnd : ByteArray := prog_3_method_7_code
def y_N_commonEnd : MethodName := ⟨"RegistryLog$Name", "commonEnd", "(Ljava/lang/String;Ljava/lang/String;)I"⟩
theorem d_N_commonEnd_0 : decode b_N_commonEnd 0 = .ok (.aload_n 0, 1) := by decide +kernel
theorem d_N_commonEnd_1 : decode b_N_commonEnd 1 = .ok (.invokevirtual 22, 3) := by decide +kernel
theorem d_N_commonEnd_4 : decode b_N_commonEnd 4 = .ok (.aload_n 1, 1) := by decide +kernel
theorem d_N_commonEnd_5 : decode b_N_commonEnd 5 = .ok (.invokevirtual 22, 3) := by decide +kernel
theorem d_N_commonEnd_8 : decode b_N_commonEnd 8 = .ok (.invokestatic 64, 3) := by decide +kernel
theorem d_N_commonEnd_11 : decode b_N_commonEnd 11 = .ok (.istore_n 2, 1) := by decide +kernel
theorem d_N_commonEnd_12 : decode b_N_commonEnd 12 = .ok (.iconst 0, 1) := by decide +kernel
theorem d_N_commonEnd_13 : decode b_N_commonEnd 13 = .ok (.istore_n 3, 1) := by decide +kernel
theorem d_N_commonEnd_14 : decode b_N_commonEnd 14 = .ok (.iload_n 3, 1) := by decide +kernel
theorem d_N_commonEnd_15 : decode b_N_commonEnd 15 = .ok (.iload_n 2, 1) := by decide +kernel
theorem d_N_commonEnd_16 : decode b_N_commonEnd 16 = .ok (.if_icmp .ge 38, 3) := by decide +kernel
theorem d_N_commonEnd_19 : decode b_N_commonEnd 19 = .ok (.aload_n 0, 1) := by decide +kernel
theorem d_N_commonEnd_20 : decode b_N_commonEnd 20 = .ok (.aload_n 0, 1) := by decide +kernel
theorem d_N_commonEnd_21 : decode b_N_commonEnd 21 = .ok (.invokevirtual 22, 3) := by decide +kernel
theorem d_N_commonEnd_24 : decode b_N_commonEnd 24 = .ok (.iconst 1, 1) := by decide +kernel
theorem d_N_commonEnd_25 : decode b_N_commonEnd 25 = .ok (.isub, 1) := by decide +kernel
theorem d_N_commonEnd_26 : decode b_N_commonEnd 26 = .ok (.iload_n 3, 1) := by decide +kernel
theorem d_N_commonEnd_27 : decode b_N_commonEnd 27 = .ok (.isub, 1) := by decide +kernel
theorem d_N_commonEnd_28 : decode b_N_commonEnd 28 = .ok (.invokevirtual 28, 3) := by decide +kernel
theorem d_N_commonEnd_31 : decode b_N_commonEnd 31 = .ok (.aload_n 1, 1) := by decide +kernel
theorem d_N_commonEnd_32 : decode b_N_commonEnd 32 = .ok (.aload_n 1, 1) := by decide +kernel
theorem d_N_commonEnd_33 : decode b_N_commonEnd 33 = .ok (.invokevirtual 22, 3) := by decide +kernel
theorem d_N_commonEnd_36 : decode b_N_commonEnd 36 = .ok (.iconst 1, 1) := by decide +kernel
theorem d_N_commonEnd_37 : decode b_N_commonEnd 37 = .ok (.isub, 1) := by decide +kernel
theorem d_N_commonEnd_38 : decode b_N_commonEnd 38 = .ok (.iload_n 3, 1) := by decide +kernel
theorem d_N_commonEnd_39 : decode b_N_commonEnd 39 = .ok (.isub, 1) := by decide +kernel
theorem d_N_commonEnd_40 : decode b_N_commonEnd 40 = .ok (.invokevirtual 28, 3) := by decide +kernel
theorem d_N_commonEnd_43 : decode b_N_commonEnd 43 = .ok (.if_icmp .eq 5, 3) := by decide +kernel
theorem d_N_commonEnd_46 : decode b_N_commonEnd 46 = .ok (.iload_n 3, 1) := by decide +kernel
theorem d_N_commonEnd_47 : decode b_N_commonEnd 47 = .ok (.ireturn, 1) := by decide +kernel
theorem d_N_commonEnd_48 : decode b_N_commonEnd 48 = .ok (.iinc 3 1, 3) := by decide +kernel
theorem d_N_commonEnd_51 : decode b_N_commonEnd 51 = .ok (.goto (-37), 3) := by decide +kernel
theorem d_N_commonEnd_54 : decode b_N_commonEnd 54 = .ok (.iload_n 2, 1) := by decide +kernel
theorem d_N_commonEnd_55 : decode b_N_commonEnd 55 = .ok (.ireturn, 1) := by decide +kernel

abbrev b_U_init : ByteArray := prog_4_method_1_code
def y_U_init : MethodName := ⟨"RegistryLog$Numbers", "<init>", "()V"⟩
theorem d_U_init_0 : decode b_U_init 0 = .ok (.aload_n 0, 1) := by decide +kernel
theorem d_U_init_1 : decode b_U_init 1 = .ok (.invokespecial 3, 3) := by decide +kernel
theorem d_U_init_4 : decode b_U_init 4 = .ok (.aload_n 0, 1) := by decide +kernel
theorem d_U_init_5 : decode b_U_init 5 = .ok (.bipush 16, 2) := by decide +kernel
theorem d_U_init_7 : decode b_U_init 7 = .ok (.newarray .long, 2) := by decide +kernel
theorem d_U_init_9 : decode b_U_init 9 = .ok (.putfield 9, 3) := by decide +kernel
theorem d_U_init_12 : decode b_U_init 12 = .ok (.aload_n 0, 1) := by decide +kernel
theorem d_U_init_13 : decode b_U_init 13 = .ok (.iconst 0, 1) := by decide +kernel
theorem d_U_init_14 : decode b_U_init 14 = .ok (.putfield 15, 3) := by decide +kernel
theorem d_U_init_17 : decode b_U_init 17 = .ok (.aload_n 0, 1) := by decide +kernel
theorem d_U_init_18 : decode b_U_init 18 = .ok (.iconst 0, 1) := by decide +kernel
theorem d_U_init_19 : decode b_U_init 19 = .ok (.putfield 19, 3) := by decide +kernel
theorem d_U_init_22 : decode b_U_init 22 = .ok (.return_, 1) := by decide +kernel

abbrev b_U_clear : ByteArray := prog_4_method_2_code
def y_U_clear : MethodName := ⟨"RegistryLog$Numbers", "clear", "()V"⟩
theorem d_U_clear_0 : decode b_U_clear 0 = .ok (.aload_n 0, 1) := by decide +kernel
theorem d_U_clear_1 : decode b_U_clear 1 = .ok (.iconst 0, 1) := by decide +kernel
theorem d_U_clear_2 : decode b_U_clear 2 = .ok (.putfield 15, 3) := by decide +kernel
theorem d_U_clear_5 : decode b_U_clear 5 = .ok (.aload_n 0, 1) := by decide +kernel
theorem d_U_clear_6 : decode b_U_clear 6 = .ok (.iconst 0, 1) := by decide +kernel
theorem d_U_clear_7 : decode b_U_clear 7 = .ok (.putfield 19, 3) := by decide +kernel
theorem d_U_clear_10 : decode b_U_clear 10 = .ok (.return_, 1) := by decide +kernel

abbrev b_U_size : ByteArray := prog_4_method_3_code
def y_U_size : MethodName := ⟨"RegistryLog$Numbers", "size", "()I"⟩
theorem d_U_size_0 : decode b_U_size 0 = .ok (.aload_n 0, 1) := by decide +kernel
theorem d_U_size_1 : decode b_U_size 1 = .ok (.getfield 15, 3) := by decide +kernel
theorem d_U_size_4 : decode b_U_size 4 = .ok (.ireturn, 1) := by decide +kernel

abbrev b_U_add : ByteArray := prog_4_method_4_code
def y_U_add : MethodName := ⟨"RegistryLog$Numbers", "add", "(J)Z"⟩
theorem d_U_add_0 : decode b_U_add 0 = .ok (.aload_n 0, 1) := by decide +kernel
theorem d_U_add_1 : decode b_U_add 1 = .ok (.getfield 15, 3) := by decide +kernel
theorem d_U_add_4 : decode b_U_add 4 = .ok (.bipush 16, 2) := by decide +kernel
theorem d_U_add_6 : decode b_U_add 6 = .ok (.if_icmp .lt 5, 3) := by decide +kernel
theorem d_U_add_9 : decode b_U_add 9 = .ok (.iconst 0, 1) := by decide +kernel
theorem d_U_add_10 : decode b_U_add 10 = .ok (.ireturn, 1) := by decide +kernel
theorem d_U_add_11 : decode b_U_add 11 = .ok (.aload_n 0, 1) := by decide +kernel
theorem d_U_add_12 : decode b_U_add 12 = .ok (.getfield 9, 3) := by decide +kernel
theorem d_U_add_15 : decode b_U_add 15 = .ok (.aload_n 0, 1) := by decide +kernel
theorem d_U_add_16 : decode b_U_add 16 = .ok (.getfield 15, 3) := by decide +kernel
theorem d_U_add_19 : decode b_U_add 19 = .ok (.lload_n 1, 1) := by decide +kernel
theorem d_U_add_20 : decode b_U_add 20 = .ok (.lastore, 1) := by decide +kernel
theorem d_U_add_21 : decode b_U_add 21 = .ok (.aload_n 0, 1) := by decide +kernel
theorem d_U_add_22 : decode b_U_add 22 = .ok (.dup, 1) := by decide +kernel
theorem d_U_add_23 : decode b_U_add 23 = .ok (.getfield 15, 3) := by decide +kernel
theorem d_U_add_26 : decode b_U_add 26 = .ok (.iconst 1, 1) := by decide +kernel
theorem d_U_add_27 : decode b_U_add 27 = .ok (.iadd, 1) := by decide +kernel
theorem d_U_add_28 : decode b_U_add 28 = .ok (.putfield 15, 3) := by decide +kernel
theorem d_U_add_31 : decode b_U_add 31 = .ok (.iconst 1, 1) := by decide +kernel
theorem d_U_add_32 : decode b_U_add 32 = .ok (.ireturn, 1) := by decide +kernel

abbrev b_U_get : ByteArray := prog_4_method_5_code
def y_U_get : MethodName := ⟨"RegistryLog$Numbers", "get", "(I)J"⟩
theorem d_U_get_0 : decode b_U_get 0 = .ok (.iload_n 1, 1) := by decide +kernel
theorem d_U_get_1 : decode b_U_get 1 = .ok (.ifCond .lt 20, 3) := by decide +kernel
theorem d_U_get_4 : decode b_U_get 4 = .ok (.iload_n 1, 1) := by decide +kernel
theorem d_U_get_5 : decode b_U_get 5 = .ok (.aload_n 0, 1) := by decide +kernel
theorem d_U_get_6 : decode b_U_get 6 = .ok (.getfield 15, 3) := by decide +kernel
theorem d_U_get_9 : decode b_U_get 9 = .ok (.if_icmp .ge 12, 3) := by decide +kernel
theorem d_U_get_12 : decode b_U_get 12 = .ok (.aload_n 0, 1) := by decide +kernel
theorem d_U_get_13 : decode b_U_get 13 = .ok (.getfield 9, 3) := by decide +kernel
theorem d_U_get_16 : decode b_U_get 16 = .ok (.iload_n 1, 1) := by decide +kernel
theorem d_U_get_17 : decode b_U_get 17 = .ok (.laload, 1) := by decide +kernel
theorem d_U_get_18 : decode b_U_get 18 = .ok (.goto 4, 3) := by decide +kernel
theorem d_U_get_21 : decode b_U_get 21 = .ok (.lconst 0, 1) := by decide +kernel
theorem d_U_get_22 : decode b_U_get 22 = .ok (.lreturn, 1) := by decide +kernel

abbrev b_U_next : ByteArray := prog_4_method_6_code
def y_U_next : MethodName := ⟨"RegistryLog$Numbers", "next", "()J"⟩
theorem d_U_next_0 : decode b_U_next 0 = .ok (.aload_n 0, 1) := by decide +kernel
theorem d_U_next_1 : decode b_U_next 1 = .ok (.aload_n 0, 1) := by decide +kernel
theorem d_U_next_2 : decode b_U_next 2 = .ok (.getfield 19, 3) := by decide +kernel
theorem d_U_next_5 : decode b_U_next 5 = .ok (.invokevirtual 22, 3) := by decide +kernel
theorem d_U_next_8 : decode b_U_next 8 = .ok (.lstore_n 1, 1) := by decide +kernel
theorem d_U_next_9 : decode b_U_next 9 = .ok (.aload_n 0, 1) := by decide +kernel
theorem d_U_next_10 : decode b_U_next 10 = .ok (.dup, 1) := by decide +kernel
theorem d_U_next_11 : decode b_U_next 11 = .ok (.getfield 19, 3) := by decide +kernel
theorem d_U_next_14 : decode b_U_next 14 = .ok (.iconst 1, 1) := by decide +kernel
theorem d_U_next_15 : decode b_U_next 15 = .ok (.iadd, 1) := by decide +kernel
theorem d_U_next_16 : decode b_U_next 16 = .ok (.putfield 19, 3) := by decide +kernel
theorem d_U_next_19 : decode b_U_next 19 = .ok (.lload_n 1, 1) := by decide +kernel
theorem d_U_next_20 : decode b_U_next 20 = .ok (.lreturn, 1) := by decide +kernel

abbrev b_U_isReadToTheEnd : ByteArray := prog_4_method_7_code
def y_U_isReadToTheEnd : MethodName := ⟨"RegistryLog$Numbers", "isReadToTheEnd", "()Z"⟩
theorem d_U_isReadToTheEnd_0 : decode b_U_isReadToTheEnd 0 = .ok (.aload_n 0, 1) := by decide +kernel
theorem d_U_isReadToTheEnd_1 : decode b_U_isReadToTheEnd 1 = .ok (.getfield 19, 3) := by decide +kernel
theorem d_U_isReadToTheEnd_4 : decode b_U_isReadToTheEnd 4 = .ok (.aload_n 0, 1) := by decide +kernel
theorem d_U_isReadToTheEnd_5 : decode b_U_isReadToTheEnd 5 = .ok (.getfield 15, 3) := by decide +kernel
theorem d_U_isReadToTheEnd_8 : decode b_U_isReadToTheEnd 8 = .ok (.if_icmp .ne 7, 3) := by decide +kernel
theorem d_U_isReadToTheEnd_11 : decode b_U_isReadToTheEnd 11 = .ok (.iconst 1, 1) := by decide +kernel
theorem d_U_isReadToTheEnd_12 : decode b_U_isReadToTheEnd 12 = .ok (.goto 4, 3) := by decide +kernel
theorem d_U_isReadToTheEnd_15 : decode b_U_isReadToTheEnd 15 = .ok (.iconst 0, 1) := by decide +kernel
theorem d_U_isReadToTheEnd_16 : decode b_U_isReadToTheEnd 16 = .ok (.ireturn, 1) := by decide +kernel

abbrev b_R_init : ByteArray := prog_5_method_1_code
def y_R_init : MethodName := ⟨"RegistryLog$Row", "<init>", "(IILRegistryLog$Name;LRegistryLog$Name;III)V"⟩
theorem d_R_init_0 : decode b_R_init 0 = .ok (.aload_n 0, 1) := by decide +kernel
theorem d_R_init_1 : decode b_R_init 1 = .ok (.invokespecial 3, 3) := by decide +kernel
theorem d_R_init_4 : decode b_R_init 4 = .ok (.aload_n 0, 1) := by decide +kernel
theorem d_R_init_5 : decode b_R_init 5 = .ok (.iload_n 1, 1) := by decide +kernel
theorem d_R_init_6 : decode b_R_init 6 = .ok (.putfield 9, 3) := by decide +kernel
theorem d_R_init_9 : decode b_R_init 9 = .ok (.aload_n 0, 1) := by decide +kernel
theorem d_R_init_10 : decode b_R_init 10 = .ok (.iload_n 2, 1) := by decide +kernel
theorem d_R_init_11 : decode b_R_init 11 = .ok (.putfield 15, 3) := by decide +kernel
theorem d_R_init_14 : decode b_R_init 14 = .ok (.aload_n 0, 1) := by decide +kernel
theorem d_R_init_15 : decode b_R_init 15 = .ok (.aload_n 3, 1) := by decide +kernel
theorem d_R_init_16 : decode b_R_init 16 = .ok (.putfield 18, 3) := by decide +kernel
theorem d_R_init_19 : decode b_R_init 19 = .ok (.aload_n 0, 1) := by decide +kernel
theorem d_R_init_20 : decode b_R_init 20 = .ok (.aload 4, 2) := by decide +kernel
theorem d_R_init_22 : decode b_R_init 22 = .ok (.putfield 22, 3) := by decide +kernel
theorem d_R_init_25 : decode b_R_init 25 = .ok (.aload_n 0, 1) := by decide +kernel
theorem d_R_init_26 : decode b_R_init 26 = .ok (.iload 5, 2) := by decide +kernel
theorem d_R_init_28 : decode b_R_init 28 = .ok (.putfield 25, 3) := by decide +kernel
theorem d_R_init_31 : decode b_R_init 31 = .ok (.aload_n 0, 1) := by decide +kernel
theorem d_R_init_32 : decode b_R_init 32 = .ok (.iload 6, 2) := by decide +kernel
theorem d_R_init_34 : decode b_R_init 34 = .ok (.putfield 28, 3) := by decide +kernel
theorem d_R_init_37 : decode b_R_init 37 = .ok (.aload_n 0, 1) := by decide +kernel
theorem d_R_init_38 : decode b_R_init 38 = .ok (.iload 7, 2) := by decide +kernel
theorem d_R_init_40 : decode b_R_init 40 = .ok (.putfield 31, 3) := by decide +kernel
theorem d_R_init_43 : decode b_R_init 43 = .ok (.lconst 0, 1) := by decide +kernel
theorem d_R_init_44 : decode b_R_init 44 = .ok (.iload_n 1, 1) := by decide +kernel
theorem d_R_init_45 : decode b_R_init 45 = .ok (.i2l, 1) := by decide +kernel
theorem d_R_init_46 : decode b_R_init 46 = .ok (.invokestatic 34, 3) := by decide +kernel
theorem d_R_init_49 : decode b_R_init 49 = .ok (.iload_n 2, 1) := by decide +kernel
theorem d_R_init_50 : decode b_R_init 50 = .ok (.i2l, 1) := by decide +kernel
theorem d_R_init_51 : decode b_R_init 51 = .ok (.invokestatic 34, 3) := by decide +kernel
theorem d_R_init_54 : decode b_R_init 54 = .ok (.lstore 8, 2) := by decide +kernel
theorem d_R_init_56 : decode b_R_init 56 = .ok (.lload 8, 2) := by decide +kernel
theorem d_R_init_58 : decode b_R_init 58 = .ok (.aload_n 3, 1) := by decide +kernel
theorem d_R_init_59 : decode b_R_init 59 = .ok (.getfield 40, 3) := by decide +kernel
theorem d_R_init_62 : decode b_R_init 62 = .ok (.invokestatic 46, 3) := by decide +kernel
theorem d_R_init_65 : decode b_R_init 65 = .ok (.ldc2_w 50, 3) := by decide +kernel
theorem d_R_init_68 : decode b_R_init 68 = .ok (.invokestatic 34, 3) := by decide +kernel
theorem d_R_init_71 : decode b_R_init 71 = .ok (.lstore 8, 2) := by decide +kernel
theorem d_R_init_73 : decode b_R_init 73 = .ok (.iload_n 1, 1) := by decide +kernel
theorem d_R_init_74 : decode b_R_init 74 = .ok (.iconst 3, 1) := by decide +kernel
theorem d_R_init_75 : decode b_R_init 75 = .ok (.if_icmp .ne 18, 3) := by decide +kernel
theorem d_R_init_78 : decode b_R_init 78 = .ok (.lload 8, 2) := by decide +kernel
theorem d_R_init_80 : decode b_R_init 80 = .ok (.aload 4, 2) := by decide +kernel
theorem d_R_init_82 : decode b_R_init 82 = .ok (.getfield 40, 3) := by decide +kernel
theorem d_R_init_85 : decode b_R_init 85 = .ok (.invokestatic 46, 3) := by decide +kernel
theorem d_R_init_88 : decode b_R_init 88 = .ok (.lstore 8, 2) := by decide +kernel
theorem d_R_init_90 : decode b_R_init 90 = .ok (.goto 19, 3) := by decide +kernel
theorem d_R_init_93 : decode b_R_init 93 = .ok (.lload 8, 2) := by decide +kernel
theorem d_R_init_95 : decode b_R_init 95 = .ok (.iload 5, 2) := by decide +kernel
theorem d_R_init_97 : decode b_R_init 97 = .ok (.i2l, 1) := by decide +kernel
theorem d_R_init_98 : decode b_R_init 98 = .ok (.invokestatic 34, 3) := by decide +kernel
theorem d_R_init_101 : decode b_R_init 101 = .ok (.iload 6, 2) := by decide +kernel
theorem d_R_init_103 : decode b_R_init 103 = .ok (.i2l, 1) := by decide +kernel
theorem d_R_init_104 : decode b_R_init 104 = .ok (.invokestatic 34, 3) := by decide +kernel
theorem d_R_init_107 : decode b_R_init 107 = .ok (.lstore 8, 2) := by decide +kernel
theorem d_R_init_109 : decode b_R_init 109 = .ok (.aload_n 0, 1) := by decide +kernel
theorem d_R_init_110 : decode b_R_init 110 = .ok (.iload_n 1, 1) := by decide +kernel
theorem d_R_init_111 : decode b_R_init 111 = .ok (.iconst (-1), 1) := by decide +kernel
theorem d_R_init_112 : decode b_R_init 112 = .ok (.if_icmp .ne 7, 3) := by decide +kernel
theorem d_R_init_115 : decode b_R_init 115 = .ok (.lconst 0, 1) := by decide +kernel
theorem d_R_init_116 : decode b_R_init 116 = .ok (.goto 5, 3) := by decide +kernel
theorem d_R_init_119 : decode b_R_init 119 = .ok (.lload 8, 2) := by decide +kernel
theorem d_R_init_121 : decode b_R_init 121 = .ok (.putfield 52, 3) := by decide +kernel
theorem d_R_init_124 : decode b_R_init 124 = .ok (.return_, 1) := by decide +kernel

abbrev b_R_withSum : ByteArray := prog_5_method_2_code
def y_R_withSum : MethodName := ⟨"RegistryLog$Row", "withSum", "(I)LRegistryLog$Row;"⟩
theorem d_R_withSum_0 : decode b_R_withSum 0 = .ok (.new 10, 3) := by decide +kernel
theorem d_R_withSum_3 : decode b_R_withSum 3 = .ok (.dup, 1) := by decide +kernel
theorem d_R_withSum_4 : decode b_R_withSum 4 = .ok (.aload_n 0, 1) := by decide +kernel
theorem d_R_withSum_5 : decode b_R_withSum 5 = .ok (.getfield 9, 3) := by decide +kernel
theorem d_R_withSum_8 : decode b_R_withSum 8 = .ok (.aload_n 0, 1) := by decide +kernel
theorem d_R_withSum_9 : decode b_R_withSum 9 = .ok (.getfield 15, 3) := by decide +kernel
theorem d_R_withSum_12 : decode b_R_withSum 12 = .ok (.aload_n 0, 1) := by decide +kernel
theorem d_R_withSum_13 : decode b_R_withSum 13 = .ok (.getfield 18, 3) := by decide +kernel
theorem d_R_withSum_16 : decode b_R_withSum 16 = .ok (.aload_n 0, 1) := by decide +kernel
theorem d_R_withSum_17 : decode b_R_withSum 17 = .ok (.getfield 22, 3) := by decide +kernel
theorem d_R_withSum_20 : decode b_R_withSum 20 = .ok (.aload_n 0, 1) := by decide +kernel
theorem d_R_withSum_21 : decode b_R_withSum 21 = .ok (.getfield 25, 3) := by decide +kernel
theorem d_R_withSum_24 : decode b_R_withSum 24 = .ok (.iload_n 1, 1) := by decide +kernel
theorem d_R_withSum_25 : decode b_R_withSum 25 = .ok (.aload_n 0, 1) := by decide +kernel
theorem d_R_withSum_26 : decode b_R_withSum 26 = .ok (.getfield 31, 3) := by decide +kernel
theorem d_R_withSum_29 : decode b_R_withSum 29 = .ok (.invokespecial 56, 3) := by decide +kernel
theorem d_R_withSum_32 : decode b_R_withSum 32 = .ok (.areturn, 1) := by decide +kernel

abbrev b_T_mix : ByteArray := prog_6_method_2_code
def y_T_mix : MethodName := ⟨"RegistryLog$Tree", "mix", "(JJ)J"⟩
theorem d_T_mix_0 : decode b_T_mix 0 = .ok (.lload_n 0, 1) := by decide +kernel
theorem d_T_mix_1 : decode b_T_mix 1 = .ok (.lload_n 2, 1) := by decide +kernel
theorem d_T_mix_2 : decode b_T_mix 2 = .ok (.lxor, 1) := by decide +kernel
theorem d_T_mix_3 : decode b_T_mix 3 = .ok (.ldc2_w 9, 3) := by decide +kernel
theorem d_T_mix_6 : decode b_T_mix 6 = .ok (.lmul, 1) := by decide +kernel
theorem d_T_mix_7 : decode b_T_mix 7 = .ok (.lstore 4, 2) := by decide +kernel
theorem d_T_mix_9 : decode b_T_mix 9 = .ok (.lload 4, 2) := by decide +kernel
theorem d_T_mix_11 : decode b_T_mix 11 = .ok (.lload 4, 2) := by decide +kernel
theorem d_T_mix_13 : decode b_T_mix 13 = .ok (.bipush 29, 2) := by decide +kernel
theorem d_T_mix_15 : decode b_T_mix 15 = .ok (.lushr, 1) := by decide +kernel
theorem d_T_mix_16 : decode b_T_mix 16 = .ok (.lxor, 1) := by decide +kernel
theorem d_T_mix_17 : decode b_T_mix 17 = .ok (.lreturn, 1) := by decide +kernel

abbrev b_T_mixText : ByteArray := prog_6_method_3_code
def y_T_mixText : MethodName := ⟨"RegistryLog$Tree", "mixText", "(JLjava/lang/String;)J"⟩
theorem d_T_mixText_0 : decode b_T_mixText 0 = .ok (.lload_n 0, 1) := by decide +kernel
theorem d_T_mixText_1 : decode b_T_mixText 1 = .ok (.lstore_n 3, 1) := by decide +kernel
theorem d_T_mixText_2 : decode b_T_mixText 2 = .ok (.iconst 0, 1) := by decide +kernel
theorem d_T_mixText_3 : decode b_T_mixText 3 = .ok (.istore 5, 2) := by decide +kernel
theorem d_T_mixText_5 : decode b_T_mixText 5 = .ok (.iload 5, 2) := by decide +kernel
theorem d_T_mixText_7 : decode b_T_mixText 7 = .ok (.aload_n 2, 1) := by decide +kernel
theorem d_T_mixText_8 : decode b_T_mixText 8 = .ok (.invokevirtual 11, 3) := by decide +kernel
theorem d_T_mixText_11 : decode b_T_mixText 11 = .ok (.if_icmp .ge 21, 3) := by decide +kernel
theorem d_T_mixText_14 : decode b_T_mixText 14 = .ok (.lload_n 3, 1) := by decide +kernel
theorem d_T_mixText_15 : decode b_T_mixText 15 = .ok (.aload_n 2, 1) := by decide +kernel
theorem d_T_mixText_16 : decode b_T_mixText 16 = .ok (.iload 5, 2) := by decide +kernel
theorem d_T_mixText_18 : decode b_T_mixText 18 = .ok (.invokevirtual 17, 3) := by decide +kernel
theorem d_T_mixText_21 : decode b_T_mixText 21 = .ok (.i2l, 1) := by decide +kernel
theorem d_T_mixText_22 : decode b_T_mixText 22 = .ok (.invokestatic 21, 3) := by decide +kernel
theorem d_T_mixText_25 : decode b_T_mixText 25 = .ok (.lstore_n 3, 1) := by decide +kernel
theorem d_T_mixText_26 : decode b_T_mixText 26 = .ok (.iinc 5 1, 3) := by decide +kernel
theorem d_T_mixText_29 : decode b_T_mixText 29 = .ok (.goto (-24), 3) := by decide +kernel
theorem d_T_mixText_32 : decode b_T_mixText 32 = .ok (.lload_n 3, 1) := by decide +kernel
theorem d_T_mixText_33 : decode b_T_mixText 33 = .ok (.lreturn, 1) := by decide +kernel

abbrev b_T_join : ByteArray := prog_6_method_4_code
def y_T_join : MethodName := ⟨"RegistryLog$Tree", "join", "(JJ)J"⟩
theorem d_T_join_0 : decode b_T_join 0 = .ok (.lconst 1, 1) := by decide +kernel
theorem d_T_join_1 : decode b_T_join 1 = .ok (.lload_n 0, 1) := by decide +kernel
theorem d_T_join_2 : decode b_T_join 2 = .ok (.invokestatic 21, 3) := by decide +kernel
theorem d_T_join_5 : decode b_T_join 5 = .ok (.lload_n 2, 1) := by decide +kernel
theorem d_T_join_6 : decode b_T_join 6 = .ok (.invokestatic 21, 3) := by decide +kernel
theorem d_T_join_9 : decode b_T_join 9 = .ok (.lreturn, 1) := by decide +kernel

abbrev b_T_firstPart : ByteArray := prog_6_method_5_code
def y_T_firstPart : MethodName := ⟨"RegistryLog$Tree", "firstPart", "(I)I"⟩
theorem d_T_firstPart_0 : decode b_T_firstPart 0 = .ok (.iconst 1, 1) := by decide +kernel
theorem d_T_firstPart_1 : decode b_T_firstPart 1 = .ok (.istore_n 1, 1) := by decide +kernel
theorem d_T_firstPart_2 : decode b_T_firstPart 2 = .ok (.iconst 2, 1) := by decide +kernel
theorem d_T_firstPart_3 : decode b_T_firstPart 3 = .ok (.istore_n 2, 1) := by decide +kernel
theorem d_T_firstPart_4 : decode b_T_firstPart 4 = .ok (.iload_n 2, 1) := by decide +kernel
theorem d_T_firstPart_5 : decode b_T_firstPart 5 = .ok (.iload_n 0, 1) := by decide +kernel
theorem d_T_firstPart_6 : decode b_T_firstPart 6 = .ok (.if_icmp .ge 18, 3) := by decide +kernel
theorem d_T_firstPart_9 : decode b_T_firstPart 9 = .ok (.iload_n 2, 1) := by decide +kernel
theorem d_T_firstPart_10 : decode b_T_firstPart 10 = .ok (.bipush 120, 2) := by decide +kernel
theorem d_T_firstPart_12 : decode b_T_firstPart 12 = .ok (.if_icmp .ge 12, 3) := by decide +kernel
theorem d_T_firstPart_15 : decode b_T_firstPart 15 = .ok (.iload_n 2, 1) := by decide +kernel
theorem d_T_firstPart_16 : decode b_T_firstPart 16 = .ok (.istore_n 1, 1) := by decide +kernel
theorem d_T_firstPart_17 : decode b_T_firstPart 17 = .ok (.iload_n 2, 1) := by decide +kernel
theorem d_T_firstPart_18 : decode b_T_firstPart 18 = .ok (.iconst 2, 1) := by decide +kernel
theorem d_T_firstPart_19 : decode b_T_firstPart 19 = .ok (.imul, 1) := by decide +kernel
theorem d_T_firstPart_20 : decode b_T_firstPart 20 = .ok (.istore_n 2, 1) := by decide +kernel
theorem d_T_firstPart_21 : decode b_T_firstPart 21 = .ok (.goto (-17), 3) := by decide +kernel
theorem d_T_firstPart_24 : decode b_T_firstPart 24 = .ok (.iload_n 1, 1) := by decide +kernel
theorem d_T_firstPart_25 : decode b_T_firstPart 25 = .ok (.ireturn, 1) := by decide +kernel

abbrev b_T_headOf : ByteArray := prog_6_method_6_code
def y_T_headOf : MethodName := ⟨"RegistryLog$Tree", "headOf", "(LRegistryLog$Ledger;II)J"⟩
theorem d_T_headOf_0 : decode b_T_headOf 0 = .ok (.iload_n 2, 1) := by decide +kernel
theorem d_T_headOf_1 : decode b_T_headOf 1 = .ok (.iconst 1, 1) := by decide +kernel
theorem d_T_headOf_2 : decode b_T_headOf 2 = .ok (.if_icmp .lt 9, 3) := by decide +kernel
theorem d_T_headOf_5 : decode b_T_headOf 5 = .ok (.iload_n 2, 1) := by decide +kernel
theorem d_T_headOf_6 : decode b_T_headOf 6 = .ok (.bipush 120, 2) := by decide +kernel
theorem d_T_headOf_8 : decode b_T_headOf 8 = .ok (.if_icmp .le 5, 3) := by decide +kernel
theorem d_T_headOf_11 : decode b_T_headOf 11 = .ok (.lconst 0, 1) := by decide +kernel
theorem d_T_headOf_12 : decode b_T_headOf 12 = .ok (.lreturn, 1) := by decide +kernel
theorem d_T_headOf_13 : decode b_T_headOf 13 = .ok (.iload_n 2, 1) := by decide +kernel
theorem d_T_headOf_14 : decode b_T_headOf 14 = .ok (.iconst 1, 1) := by decide +kernel
theorem d_T_headOf_15 : decode b_T_headOf 15 = .ok (.if_icmp .ne 12, 3) := by decide +kernel
theorem d_T_headOf_18 : decode b_T_headOf 18 = .ok (.aload_n 0, 1) := by decide +kernel
theorem d_T_headOf_19 : decode b_T_headOf 19 = .ok (.iload_n 1, 1) := by decide +kernel
theorem d_T_headOf_20 : decode b_T_headOf 20 = .ok (.invokevirtual 27, 3) := by decide +kernel
theorem d_T_headOf_23 : decode b_T_headOf 23 = .ok (.getfield 33, 3) := by decide +kernel
theorem d_T_headOf_26 : decode b_T_headOf 26 = .ok (.lreturn, 1) := by decide +kernel
theorem d_T_headOf_27 : decode b_T_headOf 27 = .ok (.iload_n 2, 1) := by decide +kernel
theorem d_T_headOf_28 : decode b_T_headOf 28 = .ok (.invokestatic 39, 3) := by decide +kernel
theorem d_T_headOf_31 : decode b_T_headOf 31 = .ok (.istore_n 3, 1) := by decide +kernel
theorem d_T_headOf_32 : decode b_T_headOf 32 = .ok (.aload_n 0, 1) := by decide +kernel
theorem d_T_headOf_33 : decode b_T_headOf 33 = .ok (.iload_n 1, 1) := by decide +kernel
theorem d_T_headOf_34 : decode b_T_headOf 34 = .ok (.iload_n 3, 1) := by decide +kernel
theorem d_T_headOf_35 : decode b_T_headOf 35 = .ok (.invokestatic 43, 3) := by decide +kernel
theorem d_T_headOf_38 : decode b_T_headOf 38 = .ok (.aload_n 0, 1) := by decide +kernel
theorem d_T_headOf_39 : decode b_T_headOf 39 = .ok (.iload_n 1, 1) := by decide +kernel
theorem d_T_headOf_40 : decode b_T_headOf 40 = .ok (.iload_n 3, 1) := by decide +kernel
theorem d_T_headOf_41 : decode b_T_headOf 41 = .ok (.iadd, 1) := by decide +kernel
theorem d_T_headOf_42 : decode b_T_headOf 42 = .ok (.iload_n 2, 1) := by decide +kernel
theorem d_T_headOf_43 : decode b_T_headOf 43 = .ok (.iload_n 3, 1) := by decide +kernel
theorem d_T_headOf_44 : decode b_T_headOf 44 = .ok (.isub, 1) := by decide +kernel
theorem d_T_headOf_45 : decode b_T_headOf 45 = .ok (.invokestatic 43, 3) := by decide +kernel
theorem d_T_headOf_48 : decode b_T_headOf 48 = .ok (.invokestatic 47, 3) := by decide +kernel
theorem d_T_headOf_51 : decode b_T_headOf 51 = .ok (.lreturn, 1) := by decide +kernel

abbrev b_T_proveInside : ByteArray := prog_6_method_7_code
def y_T_proveInside : MethodName := ⟨"RegistryLog$Tree", "proveInside", "(LRegistryLog$Ledger;IIILRegistryLog$Numbers;)V"⟩
theorem d_T_proveInside_0 : decode b_T_proveInside 0 = .ok (.iload_n 2, 1) := by decide +kernel
theorem d_T_proveInside_1 : decode b_T_proveInside 1 = .ok (.iconst 1, 1) := by decide +kernel
theorem d_T_proveInside_2 : decode b_T_proveInside 2 = .ok (.if_icmp .le 9, 3) := by decide +kernel
theorem d_T_proveInside_5 : decode b_T_proveInside 5 = .ok (.iload_n 2, 1) := by decide +kernel
theorem d_T_proveInside_6 : decode b_T_proveInside 6 = .ok (.bipush 120, 2) := by decide +kernel
theorem d_T_proveInside_8 : decode b_T_proveInside 8 = .ok (.if_icmp .le 4, 3) := by decide +kernel
theorem d_T_proveInside_11 : decode b_T_proveInside 11 = .ok (.return_, 1) := by decide +kernel
theorem d_T_proveInside_12 : decode b_T_proveInside 12 = .ok (.iload_n 2, 1) := by decide +kernel
theorem d_T_proveInside_13 : decode b_T_proveInside 13 = .ok (.invokestatic 39, 3) := by decide +kernel
theorem d_T_proveInside_16 : decode b_T_proveInside 16 = .ok (.istore 5, 2) := by decide +kernel
theorem d_T_proveInside_18 : decode b_T_proveInside 18 = .ok (.iload_n 3, 1) := by decide +kernel
theorem d_T_proveInside_19 : decode b_T_proveInside 19 = .ok (.iload 5, 2) := by decide +kernel
theorem d_T_proveInside_21 : decode b_T_proveInside 21 = .ok (.if_icmp .ge 34, 3) := by decide +kernel
theorem d_T_proveInside_24 : decode b_T_proveInside 24 = .ok (.aload_n 0, 1) := by decide +kernel
theorem d_T_proveInside_25 : decode b_T_proveInside 25 = .ok (.iload_n 1, 1) := by decide +kernel
theorem d_T_proveInside_26 : decode b_T_proveInside 26 = .ok (.iload 5, 2) := by decide +kernel
theorem d_T_proveInside_28 : decode b_T_proveInside 28 = .ok (.iload_n 3, 1) := by decide +kernel
theorem d_T_proveInside_29 : decode b_T_proveInside 29 = .ok (.aload 4, 2) := by decide +kernel
theorem d_T_proveInside_31 : decode b_T_proveInside 31 = .ok (.invokestatic 50, 3) := by decide +kernel
theorem d_T_proveInside_34 : decode b_T_proveInside 34 = .ok (.aload 4, 2) := by decide +kernel
theorem d_T_proveInside_36 : decode b_T_proveInside 36 = .ok (.aload_n 0, 1) := by decide +kernel
theorem d_T_proveInside_37 : decode b_T_proveInside 37 = .ok (.iload_n 1, 1) := by decide +kernel
theorem d_T_proveInside_38 : decode b_T_proveInside 38 = .ok (.iload 5, 2) := by decide +kernel
theorem d_T_proveInside_40 : decode b_T_proveInside 40 = .ok (.iadd, 1) := by decide +kernel
theorem d_T_proveInside_41 : decode b_T_proveInside 41 = .ok (.iload_n 2, 1) := by decide +kernel
theorem d_T_proveInside_42 : decode b_T_proveInside 42 = .ok (.iload 5, 2) := by decide +kernel
theorem d_T_proveInside_44 : decode b_T_proveInside 44 = .ok (.isub, 1) := by decide +kernel
theorem d_T_proveInside_45 : decode b_T_proveInside 45 = .ok (.invokestatic 43, 3) := by decide +kernel
theorem d_T_proveInside_48 : decode b_T_proveInside 48 = .ok (.invokevirtual 54, 3) := by decide +kernel
theorem d_T_proveInside_51 : decode b_T_proveInside 51 = .ok (.pop, 1) := by decide +kernel
theorem d_T_proveInside_52 : decode b_T_proveInside 52 = .ok (.goto 34, 3) := by decide +kernel
theorem d_T_proveInside_55 : decode b_T_proveInside 55 = .ok (.aload_n 0, 1) := by decide +kernel
theorem d_T_proveInside_56 : decode b_T_proveInside 56 = .ok (.iload_n 1, 1) := by decide +kernel
theorem d_T_proveInside_57 : decode b_T_proveInside 57 = .ok (.iload 5, 2) := by decide +kernel
theorem d_T_proveInside_59 : decode b_T_proveInside 59 = .ok (.iadd, 1) := by decide +kernel
theorem d_T_proveInside_60 : decode b_T_proveInside 60 = .ok (.iload_n 2, 1) := by decide +kernel
theorem d_T_proveInside_61 : decode b_T_proveInside 61 = .ok (.iload 5, 2) := by decide +kernel
theorem d_T_proveInside_63 : decode b_T_proveInside 63 = .ok (.isub, 1) := by decide +kernel
theorem d_T_proveInside_64 : decode b_T_proveInside 64 = .ok (.iload_n 3, 1) := by decide +kernel
theorem d_T_proveInside_65 : decode b_T_proveInside 65 = .ok (.iload 5, 2) := by decide +kernel
theorem d_T_proveInside_67 : decode b_T_proveInside 67 = .ok (.isub, 1) := by decide +kernel
theorem d_T_proveInside_68 : decode b_T_proveInside 68 = .ok (.aload 4, 2) := by decide +kernel
theorem d_T_proveInside_70 : decode b_T_proveInside 70 = .ok (.invokestatic 50, 3) := by decide +kernel
theorem d_T_proveInside_73 : decode b_T_proveInside 73 = .ok (.aload 4, 2) := by decide +kernel
theorem d_T_proveInside_75 : decode b_T_proveInside 75 = .ok (.aload_n 0, 1) := by decide +kernel
theorem d_T_proveInside_76 : decode b_T_proveInside 76 = .ok (.iload_n 1, 1) := by decide +kernel
theorem d_T_proveInside_77 : decode b_T_proveInside 77 = .ok (.iload 5, 2) := by decide +kernel
theorem d_T_proveInside_79 : decode b_T_proveInside 79 = .ok (.invokestatic 43, 3) := by decide +kernel
theorem d_T_proveInside_82 : decode b_T_proveInside 82 = .ok (.invokevirtual 54, 3) := by decide +kernel
theorem d_T_proveInside_85 : decode b_T_proveInside 85 = .ok (.pop, 1) := by decide +kernel
theorem d_T_proveInside_86 : decode b_T_proveInside 86 = .ok (.return_, 1) := by decide +kernel

abbrev b_T_proveGrowth : ByteArray := prog_6_method_8_code
def y_T_proveGrowth : MethodName := ⟨"RegistryLog$Tree", "proveGrowth", "(LRegistryLog$Ledger;IIIZLRegistryLog$Numbers;)V"⟩
theorem d_T_proveGrowth_0 : decode b_T_proveGrowth 0 = .ok (.iload_n 3, 1) := by decide +kernel
theorem d_T_proveGrowth_1 : decode b_T_proveGrowth 1 = .ok (.iload_n 2, 1) := by decide +kernel
theorem d_T_proveGrowth_2 : decode b_T_proveGrowth 2 = .ok (.if_icmp .ge 9, 3) := by decide +kernel
theorem d_T_proveGrowth_5 : decode b_T_proveGrowth 5 = .ok (.iload_n 2, 1) := by decide +kernel
theorem d_T_proveGrowth_6 : decode b_T_proveGrowth 6 = .ok (.bipush 120, 2) := by decide +kernel
theorem d_T_proveGrowth_8 : decode b_T_proveGrowth 8 = .ok (.if_icmp .le 21, 3) := by decide +kernel
theorem d_T_proveGrowth_11 : decode b_T_proveGrowth 11 = .ok (.iload 4, 2) := by decide +kernel
theorem d_T_proveGrowth_13 : decode b_T_proveGrowth 13 = .ok (.ifCond .ne 15, 3) := by decide +kernel
theorem d_T_proveGrowth_16 : decode b_T_proveGrowth 16 = .ok (.aload 5, 2) := by decide +kernel
theorem d_T_proveGrowth_18 : decode b_T_proveGrowth 18 = .ok (.aload_n 0, 1) := by decide +kernel
theorem d_T_proveGrowth_19 : decode b_T_proveGrowth 19 = .ok (.iload_n 1, 1) := by decide +kernel
theorem d_T_proveGrowth_20 : decode b_T_proveGrowth 20 = .ok (.iload_n 2, 1) := by decide +kernel
theorem d_T_proveGrowth_21 : decode b_T_proveGrowth 21 = .ok (.invokestatic 43, 3) := by decide +kernel
theorem d_T_proveGrowth_24 : decode b_T_proveGrowth 24 = .ok (.invokevirtual 54, 3) := by decide +kernel
theorem d_T_proveGrowth_27 : decode b_T_proveGrowth 27 = .ok (.pop, 1) := by decide +kernel
theorem d_T_proveGrowth_28 : decode b_T_proveGrowth 28 = .ok (.return_, 1) := by decide +kernel
theorem d_T_proveGrowth_29 : decode b_T_proveGrowth 29 = .ok (.iload_n 2, 1) := by decide +kernel
theorem d_T_proveGrowth_30 : decode b_T_proveGrowth 30 = .ok (.invokestatic 39, 3) := by decide +kernel
theorem d_T_proveGrowth_33 : decode b_T_proveGrowth 33 = .ok (.istore 6, 2) := by decide +kernel
theorem d_T_proveGrowth_35 : decode b_T_proveGrowth 35 = .ok (.iload_n 3, 1) := by decide +kernel
theorem d_T_proveGrowth_36 : decode b_T_proveGrowth 36 = .ok (.iload 6, 2) := by decide +kernel
theorem d_T_proveGrowth_38 : decode b_T_proveGrowth 38 = .ok (.if_icmp .gt 36, 3) := by decide +kernel
theorem d_T_proveGrowth_41 : decode b_T_proveGrowth 41 = .ok (.aload_n 0, 1) := by decide +kernel
theorem d_T_proveGrowth_42 : decode b_T_proveGrowth 42 = .ok (.iload_n 1, 1) := by decide +kernel
theorem d_T_proveGrowth_43 : decode b_T_proveGrowth 43 = .ok (.iload 6, 2) := by decide +kernel
theorem d_T_proveGrowth_45 : decode b_T_proveGrowth 45 = .ok (.iload_n 3, 1) := by decide +kernel
theorem d_T_proveGrowth_46 : decode b_T_proveGrowth 46 = .ok (.iload 4, 2) := by decide +kernel
theorem d_T_proveGrowth_48 : decode b_T_proveGrowth 48 = .ok (.aload 5, 2) := by decide +kernel
theorem d_T_proveGrowth_50 : decode b_T_proveGrowth 50 = .ok (.invokestatic 60, 3) := by decide +kernel
theorem d_T_proveGrowth_53 : decode b_T_proveGrowth 53 = .ok (.aload 5, 2) := by decide +kernel
theorem d_T_proveGrowth_55 : decode b_T_proveGrowth 55 = .ok (.aload_n 0, 1) := by decide +kernel
theorem d_T_proveGrowth_56 : decode b_T_proveGrowth 56 = .ok (.iload_n 1, 1) := by decide +kernel
theorem d_T_proveGrowth_57 : decode b_T_proveGrowth 57 = .ok (.iload 6, 2) := by decide +kernel
theorem d_T_proveGrowth_59 : decode b_T_proveGrowth 59 = .ok (.iadd, 1) := by decide +kernel
theorem d_T_proveGrowth_60 : decode b_T_proveGrowth 60 = .ok (.iload_n 2, 1) := by decide +kernel
theorem d_T_proveGrowth_61 : decode b_T_proveGrowth 61 = .ok (.iload 6, 2) := by decide +kernel
theorem d_T_proveGrowth_63 : decode b_T_proveGrowth 63 = .ok (.isub, 1) := by decide +kernel
theorem d_T_proveGrowth_64 : decode b_T_proveGrowth 64 = .ok (.invokestatic 43, 3) := by decide +kernel
theorem d_T_proveGrowth_67 : decode b_T_proveGrowth 67 = .ok (.invokevirtual 54, 3) := by decide +kernel
theorem d_T_proveGrowth_70 : decode b_T_proveGrowth 70 = .ok (.pop, 1) := by decide +kernel
theorem d_T_proveGrowth_71 : decode b_T_proveGrowth 71 = .ok (.goto 35, 3) := by decide +kernel
theorem d_T_proveGrowth_74 : decode b_T_proveGrowth 74 = .ok (.aload_n 0, 1) := by decide +kernel
theorem d_T_proveGrowth_75 : decode b_T_proveGrowth 75 = .ok (.iload_n 1, 1) := by decide +kernel
theorem d_T_proveGrowth_76 : decode b_T_proveGrowth 76 = .ok (.iload 6, 2) := by decide +kernel
theorem d_T_proveGrowth_78 : decode b_T_proveGrowth 78 = .ok (.iadd, 1) := by decide +kernel
theorem d_T_proveGrowth_79 : decode b_T_proveGrowth 79 = .ok (.iload_n 2, 1) := by decide +kernel
theorem d_T_proveGrowth_80 : decode b_T_proveGrowth 80 = .ok (.iload 6, 2) := by decide +kernel
theorem d_T_proveGrowth_82 : decode b_T_proveGrowth 82 = .ok (.isub, 1) := by decide +kernel
theorem d_T_proveGrowth_83 : decode b_T_proveGrowth 83 = .ok (.iload_n 3, 1) := by decide +kernel
theorem d_T_proveGrowth_84 : decode b_T_proveGrowth 84 = .ok (.iload 6, 2) := by decide +kernel
theorem d_T_proveGrowth_86 : decode b_T_proveGrowth 86 = .ok (.isub, 1) := by decide +kernel
theorem d_T_proveGrowth_87 : decode b_T_proveGrowth 87 = .ok (.iconst 0, 1) := by decide +kernel
theorem d_T_proveGrowth_88 : decode b_T_proveGrowth 88 = .ok (.aload 5, 2) := by decide +kernel
theorem d_T_proveGrowth_90 : decode b_T_proveGrowth 90 = .ok (.invokestatic 60, 3) := by decide +kernel
theorem d_T_proveGrowth_93 : decode b_T_proveGrowth 93 = .ok (.aload 5, 2) := by decide +kernel
theorem d_T_proveGrowth_95 : decode b_T_proveGrowth 95 = .ok (.aload_n 0, 1) := by decide +kernel
theorem d_T_proveGrowth_96 : decode b_T_proveGrowth 96 = .ok (.iload_n 1, 1) := by decide +kernel
theorem d_T_proveGrowth_97 : decode b_T_proveGrowth 97 = .ok (.iload 6, 2) := by decide +kernel
theorem d_T_proveGrowth_99 : decode b_T_proveGrowth 99 = .ok (.invokestatic 43, 3) := by decide +kernel
theorem d_T_proveGrowth_102 : decode b_T_proveGrowth 102 = .ok (.invokevirtual 54, 3) := by decide +kernel
theorem d_T_proveGrowth_105 : decode b_T_proveGrowth 105 = .ok (.pop, 1) := by decide +kernel
theorem d_T_proveGrowth_106 : decode b_T_proveGrowth 106 = .ok (.return_, 1) := by decide +kernel

abbrev b_T_headFromInside : ByteArray := prog_6_method_9_code
def y_T_headFromInside : MethodName := ⟨"RegistryLog$Tree", "headFromInside", "(IIJLRegistryLog$Numbers;)J"⟩
theorem d_T_headFromInside_0 : decode b_T_headFromInside 0 = .ok (.iload_n 1, 1) := by decide +kernel
theorem d_T_headFromInside_1 : decode b_T_headFromInside 1 = .ok (.iconst 1, 1) := by decide +kernel
theorem d_T_headFromInside_2 : decode b_T_headFromInside 2 = .ok (.if_icmp .le 9, 3) := by decide +kernel
theorem d_T_headFromInside_5 : decode b_T_headFromInside 5 = .ok (.iload_n 1, 1) := by decide +kernel
theorem d_T_headFromInside_6 : decode b_T_headFromInside 6 = .ok (.bipush 120, 2) := by decide +kernel
theorem d_T_headFromInside_8 : decode b_T_headFromInside 8 = .ok (.if_icmp .le 5, 3) := by decide +kernel
theorem d_T_headFromInside_11 : decode b_T_headFromInside 11 = .ok (.lload_n 2, 1) := by decide +kernel
theorem d_T_headFromInside_12 : decode b_T_headFromInside 12 = .ok (.lreturn, 1) := by decide +kernel
theorem d_T_headFromInside_13 : decode b_T_headFromInside 13 = .ok (.iload_n 1, 1) := by decide +kernel
theorem d_T_headFromInside_14 : decode b_T_headFromInside 14 = .ok (.invokestatic 39, 3) := by decide +kernel
theorem d_T_headFromInside_17 : decode b_T_headFromInside 17 = .ok (.istore 5, 2) := by decide +kernel
theorem d_T_headFromInside_19 : decode b_T_headFromInside 19 = .ok (.iload_n 0, 1) := by decide +kernel
theorem d_T_headFromInside_20 : decode b_T_headFromInside 20 = .ok (.iload 5, 2) := by decide +kernel
theorem d_T_headFromInside_22 : decode b_T_headFromInside 22 = .ok (.if_icmp .ge 25, 3) := by decide +kernel
theorem d_T_headFromInside_25 : decode b_T_headFromInside 25 = .ok (.iload_n 0, 1) := by decide +kernel
theorem d_T_headFromInside_26 : decode b_T_headFromInside 26 = .ok (.iload 5, 2) := by decide +kernel
theorem d_T_headFromInside_28 : decode b_T_headFromInside 28 = .ok (.lload_n 2, 1) := by decide +kernel
theorem d_T_headFromInside_29 : decode b_T_headFromInside 29 = .ok (.aload 4, 2) := by decide +kernel
theorem d_T_headFromInside_31 : decode b_T_headFromInside 31 = .ok (.invokestatic 64, 3) := by decide +kernel
theorem d_T_headFromInside_34 : decode b_T_headFromInside 34 = .ok (.lstore 6, 2) := by decide +kernel
theorem d_T_headFromInside_36 : decode b_T_headFromInside 36 = .ok (.lload 6, 2) := by decide +kernel
theorem d_T_headFromInside_38 : decode b_T_headFromInside 38 = .ok (.aload 4, 2) := by decide +kernel
theorem d_T_headFromInside_40 : decode b_T_headFromInside 40 = .ok (.invokevirtual 68, 3) := by decide +kernel
theorem d_T_headFromInside_43 : decode b_T_headFromInside 43 = .ok (.invokestatic 47, 3) := by decide +kernel
theorem d_T_headFromInside_46 : decode b_T_headFromInside 46 = .ok (.lreturn, 1) := by decide +kernel
theorem d_T_headFromInside_47 : decode b_T_headFromInside 47 = .ok (.iload_n 0, 1) := by decide +kernel
theorem d_T_headFromInside_48 : decode b_T_headFromInside 48 = .ok (.iload 5, 2) := by decide +kernel
theorem d_T_headFromInside_50 : decode b_T_headFromInside 50 = .ok (.isub, 1) := by decide +kernel
theorem d_T_headFromInside_51 : decode b_T_headFromInside 51 = .ok (.iload_n 1, 1) := by decide +kernel
theorem d_T_headFromInside_52 : decode b_T_headFromInside 52 = .ok (.iload 5, 2) := by decide +kernel
theorem d_T_headFromInside_54 : decode b_T_headFromInside 54 = .ok (.isub, 1) := by decide +kernel
theorem d_T_headFromInside_55 : decode b_T_headFromInside 55 = .ok (.lload_n 2, 1) := by decide +kernel
theorem d_T_headFromInside_56 : decode b_T_headFromInside 56 = .ok (.aload 4, 2) := by decide +kernel
theorem d_T_headFromInside_58 : decode b_T_headFromInside 58 = .ok (.invokestatic 64, 3) := by decide +kernel
theorem d_T_headFromInside_61 : decode b_T_headFromInside 61 = .ok (.lstore 6, 2) := by decide +kernel
theorem d_T_headFromInside_63 : decode b_T_headFromInside 63 = .ok (.aload 4, 2) := by decide +kernel
theorem d_T_headFromInside_65 : decode b_T_headFromInside 65 = .ok (.invokevirtual 68, 3) := by decide +kernel
theorem d_T_headFromInside_68 : decode b_T_headFromInside 68 = .ok (.lload 6, 2) := by decide +kernel
theorem d_T_headFromInside_70 : decode b_T_headFromInside 70 = .ok (.invokestatic 47, 3) := by decide +kernel
theorem d_T_headFromInside_73 : decode b_T_headFromInside 73 = .ok (.lreturn, 1) := by decide +kernel

abbrev b_T_headsFromGrowth : ByteArray := prog_6_method_10_code
def y_T_headsFromGrowth : MethodName := ⟨"RegistryLog$Tree", "headsFromGrowth", "(IIZJLRegistryLog$Numbers;)LRegistryLog$TwoHeads;"⟩
theorem d_T_headsFromGrowth_0 : decode b_T_headsFromGrowth 0 = .ok (.iload_n 0, 1) := by decide +kernel
theorem d_T_headsFromGrowth_1 : decode b_T_headsFromGrowth 1 = .ok (.iload_n 1, 1) := by decide +kernel
theorem d_T_headsFromGrowth_2 : decode b_T_headsFromGrowth 2 = .ok (.if_icmp .ge 9, 3) := by decide +kernel
theorem d_T_headsFromGrowth_5 : decode b_T_headsFromGrowth 5 = .ok (.iload_n 1, 1) := by decide +kernel
theorem d_T_headsFromGrowth_6 : decode b_T_headsFromGrowth 6 = .ok (.bipush 120, 2) := by decide +kernel
theorem d_T_headsFromGrowth_8 : decode b_T_headsFromGrowth 8 = .ok (.if_icmp .le 30, 3) := by decide +kernel
theorem d_T_headsFromGrowth_11 : decode b_T_headsFromGrowth 11 = .ok (.iload_n 2, 1) := by decide +kernel
theorem d_T_headsFromGrowth_12 : decode b_T_headsFromGrowth 12 = .ok (.ifCond .eq 7, 3) := by decide +kernel
theorem d_T_headsFromGrowth_15 : decode b_T_headsFromGrowth 15 = .ok (.lload_n 3, 1) := by decide +kernel
theorem d_T_headsFromGrowth_16 : decode b_T_headsFromGrowth 16 = .ok (.goto 8, 3) := by decide +kernel
theorem d_T_headsFromGrowth_19 : decode b_T_headsFromGrowth 19 = .ok (.aload 5, 2) := by decide +kernel
theorem d_T_headsFromGrowth_21 : decode b_T_headsFromGrowth 21 = .ok (.invokevirtual 68, 3) := by decide +kernel
theorem d_T_headsFromGrowth_24 : decode b_T_headsFromGrowth 24 = .ok (.lstore 6, 2) := by decide +kernel
theorem d_T_headsFromGrowth_26 : decode b_T_headsFromGrowth 26 = .ok (.new 72, 3) := by decide +kernel
theorem d_T_headsFromGrowth_29 : decode b_T_headsFromGrowth 29 = .ok (.dup, 1) := by decide +kernel
theorem d_T_headsFromGrowth_30 : decode b_T_headsFromGrowth 30 = .ok (.lload 6, 2) := by decide +kernel
theorem d_T_headsFromGrowth_32 : decode b_T_headsFromGrowth 32 = .ok (.lload 6, 2) := by decide +kernel
theorem d_T_headsFromGrowth_34 : decode b_T_headsFromGrowth 34 = .ok (.invokespecial 74, 3) := by decide +kernel
theorem d_T_headsFromGrowth_37 : decode b_T_headsFromGrowth 37 = .ok (.areturn, 1) := by decide +kernel
theorem d_T_headsFromGrowth_38 : decode b_T_headsFromGrowth 38 = .ok (.iload_n 1, 1) := by decide +kernel
theorem d_T_headsFromGrowth_39 : decode b_T_headsFromGrowth 39 = .ok (.invokestatic 39, 3) := by decide +kernel
theorem d_T_headsFromGrowth_42 : decode b_T_headsFromGrowth 42 = .ok (.istore 6, 2) := by decide +kernel
theorem d_T_headsFromGrowth_44 : decode b_T_headsFromGrowth 44 = .ok (.iload_n 0, 1) := by decide +kernel
theorem d_T_headsFromGrowth_45 : decode b_T_headsFromGrowth 45 = .ok (.iload 6, 2) := by decide +kernel
theorem d_T_headsFromGrowth_47 : decode b_T_headsFromGrowth 47 = .ok (.if_icmp .gt 41, 3) := by decide +kernel
theorem d_T_headsFromGrowth_50 : decode b_T_headsFromGrowth 50 = .ok (.iload_n 0, 1) := by decide +kernel
theorem d_T_headsFromGrowth_51 : decode b_T_headsFromGrowth 51 = .ok (.iload 6, 2) := by decide +kernel
theorem d_T_headsFromGrowth_53 : decode b_T_headsFromGrowth 53 = .ok (.iload_n 2, 1) := by decide +kernel
theorem d_T_headsFromGrowth_54 : decode b_T_headsFromGrowth 54 = .ok (.lload_n 3, 1) := by decide +kernel
theorem d_T_headsFromGrowth_55 : decode b_T_headsFromGrowth 55 = .ok (.aload 5, 2) := by decide +kernel
theorem d_T_headsFromGrowth_57 : decode b_T_headsFromGrowth 57 = .ok (.invokestatic 77, 3) := by decide +kernel
theorem d_T_headsFromGrowth_60 : decode b_T_headsFromGrowth 60 = .ok (.astore 7, 2) := by decide +kernel
theorem d_T_headsFromGrowth_62 : decode b_T_headsFromGrowth 62 = .ok (.new 72, 3) := by decide +kernel
theorem d_T_headsFromGrowth_65 : decode b_T_headsFromGrowth 65 = .ok (.dup, 1) := by decide +kernel
theorem d_T_headsFromGrowth_66 : decode b_T_headsFromGrowth 66 = .ok (.aload 7, 2) := by decide +kernel
theorem d_T_headsFromGrowth_68 : decode b_T_headsFromGrowth 68 = .ok (.getfield 81, 3) := by decide +kernel
theorem d_T_headsFromGrowth_71 : decode b_T_headsFromGrowth 71 = .ok (.aload 7, 2) := by decide +kernel
theorem d_T_headsFromGrowth_73 : decode b_T_headsFromGrowth 73 = .ok (.getfield 84, 3) := by decide +kernel
theorem d_T_headsFromGrowth_76 : decode b_T_headsFromGrowth 76 = .ok (.aload 5, 2) := by decide +kernel
theorem d_T_headsFromGrowth_78 : decode b_T_headsFromGrowth 78 = .ok (.invokevirtual 68, 3) := by decide +kernel
theorem d_T_headsFromGrowth_81 : decode b_T_headsFromGrowth 81 = .ok (.invokestatic 47, 3) := by decide +kernel
theorem d_T_headsFromGrowth_84 : decode b_T_headsFromGrowth 84 = .ok (.invokespecial 74, 3) := by decide +kernel
theorem d_T_headsFromGrowth_87 : decode b_T_headsFromGrowth 87 = .ok (.areturn, 1) := by decide +kernel
theorem d_T_headsFromGrowth_88 : decode b_T_headsFromGrowth 88 = .ok (.iload_n 0, 1) := by decide +kernel
theorem d_T_headsFromGrowth_89 : decode b_T_headsFromGrowth 89 = .ok (.iload 6, 2) := by decide +kernel
theorem d_T_headsFromGrowth_91 : decode b_T_headsFromGrowth 91 = .ok (.isub, 1) := by decide +kernel
theorem d_T_headsFromGrowth_92 : decode b_T_headsFromGrowth 92 = .ok (.iload_n 1, 1) := by decide +kernel
theorem d_T_headsFromGrowth_93 : decode b_T_headsFromGrowth 93 = .ok (.iload 6, 2) := by decide +kernel
theorem d_T_headsFromGrowth_95 : decode b_T_headsFromGrowth 95 = .ok (.isub, 1) := by decide +kernel
theorem d_T_headsFromGrowth_96 : decode b_T_headsFromGrowth 96 = .ok (.iconst 0, 1) := by decide +kernel
theorem d_T_headsFromGrowth_97 : decode b_T_headsFromGrowth 97 = .ok (.lload_n 3, 1) := by decide +kernel
theorem d_T_headsFromGrowth_98 : decode b_T_headsFromGrowth 98 = .ok (.aload 5, 2) := by decide +kernel
theorem d_T_headsFromGrowth_100 : decode b_T_headsFromGrowth 100 = .ok (.invokestatic 77, 3) := by decide +kernel
theorem d_T_headsFromGrowth_103 : decode b_T_headsFromGrowth 103 = .ok (.astore 7, 2) := by decide +kernel
theorem d_T_headsFromGrowth_105 : decode b_T_headsFromGrowth 105 = .ok (.aload 5, 2) := by decide +kernel
theorem d_T_headsFromGrowth_107 : decode b_T_headsFromGrowth 107 = .ok (.invokevirtual 68, 3) := by decide +kernel
theorem d_T_headsFromGrowth_110 : decode b_T_headsFromGrowth 110 = .ok (.lstore 8, 2) := by decide +kernel
theorem d_T_headsFromGrowth_112 : decode b_T_headsFromGrowth 112 = .ok (.new 72, 3) := by decide +kernel
theorem d_T_headsFromGrowth_115 : decode b_T_headsFromGrowth 115 = .ok (.dup, 1) := by decide +kernel
theorem d_T_headsFromGrowth_116 : decode b_T_headsFromGrowth 116 = .ok (.lload 8, 2) := by decide +kernel
theorem d_T_headsFromGrowth_118 : decode b_T_headsFromGrowth 118 = .ok (.aload 7, 2) := by decide +kernel
theorem d_T_headsFromGrowth_120 : decode b_T_headsFromGrowth 120 = .ok (.getfield 81, 3) := by decide +kernel
theorem d_T_headsFromGrowth_123 : decode b_T_headsFromGrowth 123 = .ok (.invokestatic 47, 3) := by decide +kernel
theorem d_T_headsFromGrowth_126 : decode b_T_headsFromGrowth 126 = .ok (.lload 8, 2) := by decide +kernel
theorem d_T_headsFromGrowth_128 : decode b_T_headsFromGrowth 128 = .ok (.aload 7, 2) := by decide +kernel
theorem d_T_headsFromGrowth_130 : decode b_T_headsFromGrowth 130 = .ok (.getfield 84, 3) := by decide +kernel
theorem d_T_headsFromGrowth_133 : decode b_T_headsFromGrowth 133 = .ok (.invokestatic 47, 3) := by decide +kernel
theorem d_T_headsFromGrowth_136 : decode b_T_headsFromGrowth 136 = .ok (.invokespecial 74, 3) := by decide +kernel
theorem d_T_headsFromGrowth_139 : decode b_T_headsFromGrowth 139 = .ok (.areturn, 1) := by decide +kernel

abbrev b_H_init : ByteArray := prog_7_method_1_code
def y_H_init : MethodName := ⟨"RegistryLog$TwoHeads", "<init>", "(JJ)V"⟩
theorem d_H_init_0 : decode b_H_init 0 = .ok (.aload_n 0, 1) := by decide +kernel
theorem d_H_init_1 : decode b_H_init 1 = .ok (.invokespecial 1, 3) := by decide +kernel
theorem d_H_init_4 : decode b_H_init 4 = .ok (.aload_n 0, 1) := by decide +kernel
theorem d_H_init_5 : decode b_H_init 5 = .ok (.lload_n 1, 1) := by decide +kernel
theorem d_H_init_6 : decode b_H_init 6 = .ok (.putfield 7, 3) := by decide +kernel
theorem d_H_init_9 : decode b_H_init 9 = .ok (.aload_n 0, 1) := by decide +kernel
theorem d_H_init_10 : decode b_H_init 10 = .ok (.lload_n 3, 1) := by decide +kernel
theorem d_H_init_11 : decode b_H_init 11 = .ok (.putfield 13, 3) := by decide +kernel
theorem d_H_init_14 : decode b_H_init 14 = .ok (.return_, 1) := by decide +kernel
end
section
abbrev b_X_init : ByteArray := prog_1_method_1_code
def y_X_init : MethodName := ⟨"RegistryLog", "<init>", "()V"⟩
theorem d_X_init_0 : decode b_X_init 0 = .ok (.aload_n 0, 1) := by decide +kernel
theorem d_X_init_1 : decode b_X_init 1 = .ok (.invokespecial 1, 3) := by decide +kernel
theorem d_X_init_4 : decode b_X_init 4 = .ok (.aload_n 0, 1) := by decide +kernel
theorem d_X_init_5 : decode b_X_init 5 = .ok (.new 7, 3) := by decide +kernel
theorem d_X_init_8 : decode b_X_init 8 = .ok (.dup, 1) := by decide +kernel
theorem d_X_init_9 : decode b_X_init 9 = .ok (.invokespecial 9, 3) := by decide +kernel
theorem d_X_init_12 : decode b_X_init 12 = .ok (.putfield 10, 3) := by decide +kernel
theorem d_X_init_15 : decode b_X_init 15 = .ok (.aload_n 0, 1) := by decide +kernel
theorem d_X_init_16 : decode b_X_init 16 = .ok (.new 16, 3) := by decide +kernel
theorem d_X_init_19 : decode b_X_init 19 = .ok (.dup, 1) := by decide +kernel
theorem d_X_init_20 : decode b_X_init 20 = .ok (.invokespecial 18, 3) := by decide +kernel
theorem d_X_init_23 : decode b_X_init 23 = .ok (.putfield 19, 3) := by decide +kernel
theorem d_X_init_26 : decode b_X_init 26 = .ok (.aload_n 0, 1) := by decide +kernel
theorem d_X_init_27 : decode b_X_init 27 = .ok (.iconst 4, 1) := by decide +kernel
theorem d_X_init_28 : decode b_X_init 28 = .ok (.anewarray 16, 3) := by decide +kernel
theorem d_X_init_31 : decode b_X_init 31 = .ok (.putfield 23, 3) := by decide +kernel
theorem d_X_init_34 : decode b_X_init 34 = .ok (.iconst 0, 1) := by decide +kernel
theorem d_X_init_35 : decode b_X_init 35 = .ok (.istore_n 1, 1) := by decide +kernel
theorem d_X_init_36 : decode b_X_init 36 = .ok (.iload_n 1, 1) := by decide +kernel
theorem d_X_init_37 : decode b_X_init 37 = .ok (.iconst 4, 1) := by decide +kernel
theorem d_X_init_38 : decode b_X_init 38 = .ok (.if_icmp .ge 22, 3) := by decide +kernel
theorem d_X_init_41 : decode b_X_init 41 = .ok (.aload_n 0, 1) := by decide +kernel
theorem d_X_init_42 : decode b_X_init 42 = .ok (.getfield 23, 3) := by decide +kernel
theorem d_X_init_45 : decode b_X_init 45 = .ok (.iload_n 1, 1) := by decide +kernel
theorem d_X_init_46 : decode b_X_init 46 = .ok (.new 16, 3) := by decide +kernel
theorem d_X_init_49 : decode b_X_init 49 = .ok (.dup, 1) := by decide +kernel
theorem d_X_init_50 : decode b_X_init 50 = .ok (.invokespecial 18, 3) := by decide +kernel
theorem d_X_init_53 : decode b_X_init 53 = .ok (.aastore, 1) := by decide +kernel
theorem d_X_init_54 : decode b_X_init 54 = .ok (.iinc 1 1, 3) := by decide +kernel
theorem d_X_init_57 : decode b_X_init 57 = .ok (.goto (-21), 3) := by decide +kernel
theorem d_X_init_60 : decode b_X_init 60 = .ok (.aload_n 0, 1) := by decide +kernel
theorem d_X_init_61 : decode b_X_init 61 = .ok (.new 16, 3) := by decide +kernel
theorem d_X_init_64 : decode b_X_init 64 = .ok (.dup, 1) := by decide +kernel
theorem d_X_init_65 : decode b_X_init 65 = .ok (.invokespecial 18, 3) := by decide +kernel
theorem d_X_init_68 : decode b_X_init 68 = .ok (.putfield 27, 3) := by decide +kernel
theorem d_X_init_71 : decode b_X_init 71 = .ok (.aload_n 0, 1) := by decide +kernel
theorem d_X_init_72 : decode b_X_init 72 = .ok (.new 30, 3) := by decide +kernel
theorem d_X_init_75 : decode b_X_init 75 = .ok (.dup, 1) := by decide +kernel
theorem d_X_init_76 : decode b_X_init 76 = .ok (.invokespecial 32, 3) := by decide +kernel
theorem d_X_init_79 : decode b_X_init 79 = .ok (.putfield 33, 3) := by decide +kernel
theorem d_X_init_82 : decode b_X_init 82 = .ok (.aload_n 0, 1) := by decide +kernel
theorem d_X_init_83 : decode b_X_init 83 = .ok (.new 30, 3) := by decide +kernel
theorem d_X_init_86 : decode b_X_init 86 = .ok (.dup, 1) := by decide +kernel
theorem d_X_init_87 : decode b_X_init 87 = .ok (.invokespecial 32, 3) := by decide +kernel
theorem d_X_init_90 : decode b_X_init 90 = .ok (.putfield 37, 3) := by decide +kernel
theorem d_X_init_93 : decode b_X_init 93 = .ok (.return_, 1) := by decide +kernel

abbrev b_X_type : ByteArray := prog_1_method_2_code
def y_X_type : MethodName := ⟨"RegistryLog", "type", "(C)Z"⟩
theorem d_X_type_0 : decode b_X_type 0 = .ok (.iload_n 1, 1) := by decide +kernel
theorem d_X_type_1 : decode b_X_type 1 = .ok (.bipush 32, 2) := by decide +kernel
theorem d_X_type_3 : decode b_X_type 3 = .ok (.if_icmp .lt 21, 3) := by decide +kernel
theorem d_X_type_6 : decode b_X_type 6 = .ok (.iload_n 1, 1) := by decide +kernel
theorem d_X_type_7 : decode b_X_type 7 = .ok (.bipush 126, 2) := by decide +kernel
theorem d_X_type_9 : decode b_X_type 9 = .ok (.if_icmp .gt 15, 3) := by decide +kernel
theorem d_X_type_12 : decode b_X_type 12 = .ok (.aload_n 0, 1) := by decide +kernel
theorem d_X_type_13 : decode b_X_type 13 = .ok (.getfield 10, 3) := by decide +kernel
theorem d_X_type_16 : decode b_X_type 16 = .ok (.invokevirtual 40, 3) := by decide +kernel
theorem d_X_type_19 : decode b_X_type 19 = .ok (.bipush 24, 2) := by decide +kernel
theorem d_X_type_21 : decode b_X_type 21 = .ok (.if_icmp .lt 5, 3) := by decide +kernel
theorem d_X_type_24 : decode b_X_type 24 = .ok (.iconst 0, 1) := by decide +kernel
theorem d_X_type_25 : decode b_X_type 25 = .ok (.ireturn, 1) := by decide +kernel
theorem d_X_type_26 : decode b_X_type 26 = .ok (.aload_n 0, 1) := by decide +kernel
theorem d_X_type_27 : decode b_X_type 27 = .ok (.getfield 10, 3) := by decide +kernel
theorem d_X_type_30 : decode b_X_type 30 = .ok (.iload_n 1, 1) := by decide +kernel
theorem d_X_type_31 : decode b_X_type 31 = .ok (.invokevirtual 44, 3) := by decide +kernel
theorem d_X_type_34 : decode b_X_type 34 = .ok (.pop, 1) := by decide +kernel
theorem d_X_type_35 : decode b_X_type 35 = .ok (.iconst 1, 1) := by decide +kernel
theorem d_X_type_36 : decode b_X_type 36 = .ok (.ireturn, 1) := by decide +kernel

abbrev b_X_publish : ByteArray := prog_1_method_3_code
def y_X_publish : MethodName := ⟨"RegistryLog", "publish", "(III)I"⟩
theorem d_X_publish_0 : decode b_X_publish 0 = .ok (.aload_n 0, 1) := by decide +kernel
theorem d_X_publish_1 : decode b_X_publish 1 = .ok (.invokevirtual 48, 3) := by decide +kernel
theorem d_X_publish_4 : decode b_X_publish 4 = .ok (.astore 4, 2) := by decide +kernel
theorem d_X_publish_6 : decode b_X_publish 6 = .ok (.aload 4, 2) := by decide +kernel
theorem d_X_publish_8 : decode b_X_publish 8 = .ok (.invokevirtual 52, 3) := by decide +kernel
theorem d_X_publish_11 : decode b_X_publish 11 = .ok (.ifCond .eq 21, 3) := by decide +kernel
theorem d_X_publish_14 : decode b_X_publish 14 = .ok (.iload_n 1, 1) := by decide +kernel
theorem d_X_publish_15 : decode b_X_publish 15 = .ok (.invokestatic 58, 3) := by decide +kernel
theorem d_X_publish_18 : decode b_X_publish 18 = .ok (.ifCond .eq 14, 3) := by decide +kernel
theorem d_X_publish_21 : decode b_X_publish 21 = .ok (.iload_n 2, 1) := by decide +kernel
theorem d_X_publish_22 : decode b_X_publish 22 = .ok (.invokestatic 62, 3) := by decide +kernel
theorem d_X_publish_25 : decode b_X_publish 25 = .ok (.ifCond .eq 7, 3) := by decide +kernel
theorem d_X_publish_28 : decode b_X_publish 28 = .ok (.iconst 1, 1) := by decide +kernel
theorem d_X_publish_29 : decode b_X_publish 29 = .ok (.goto 4, 3) := by decide +kernel
theorem d_X_publish_32 : decode b_X_publish 32 = .ok (.iconst 0, 1) := by decide +kernel
theorem d_X_publish_33 : decode b_X_publish 33 = .ok (.invokestatic 65, 3) := by decide +kernel
theorem d_X_publish_36 : decode b_X_publish 36 = .ok (.aload_n 0, 1) := by decide +kernel
theorem d_X_publish_37 : decode b_X_publish 37 = .ok (.getfield 19, 3) := by decide +kernel
theorem d_X_publish_40 : decode b_X_publish 40 = .ok (.aload 4, 2) := by decide +kernel
theorem d_X_publish_42 : decode b_X_publish 42 = .ok (.invokevirtual 69, 3) := by decide +kernel
theorem d_X_publish_45 : decode b_X_publish 45 = .ok (.istore 5, 2) := by decide +kernel
theorem d_X_publish_47 : decode b_X_publish 47 = .ok (.iload 5, 2) := by decide +kernel
theorem d_X_publish_49 : decode b_X_publish 49 = .ok (.iconst (-1), 1) := by decide +kernel
theorem d_X_publish_50 : decode b_X_publish 50 = .ok (.if_icmp .ne 28, 3) := by decide +kernel
theorem d_X_publish_53 : decode b_X_publish 53 = .ok (.aload_n 0, 1) := by decide +kernel
theorem d_X_publish_54 : decode b_X_publish 54 = .ok (.getfield 19, 3) := by decide +kernel
theorem d_X_publish_57 : decode b_X_publish 57 = .ok (.aload 4, 2) := by decide +kernel
theorem d_X_publish_59 : decode b_X_publish 59 = .ok (.iconst (-1), 1) := by decide +kernel
theorem d_X_publish_60 : decode b_X_publish 60 = .ok (.invokevirtual 73, 3) := by decide +kernel
theorem d_X_publish_63 : decode b_X_publish 63 = .ok (.invokestatic 77, 3) := by decide +kernel
theorem d_X_publish_66 : decode b_X_publish 66 = .ok (.aload_n 0, 1) := by decide +kernel
theorem d_X_publish_67 : decode b_X_publish 67 = .ok (.getfield 19, 3) := by decide +kernel
theorem d_X_publish_70 : decode b_X_publish 70 = .ok (.invokevirtual 80, 3) := by decide +kernel
theorem d_X_publish_73 : decode b_X_publish 73 = .ok (.istore 5, 2) := by decide +kernel
theorem d_X_publish_75 : decode b_X_publish 75 = .ok (.goto 38, 3) := by decide +kernel
theorem d_X_publish_78 : decode b_X_publish 78 = .ok (.aload_n 0, 1) := by decide +kernel
theorem d_X_publish_79 : decode b_X_publish 79 = .ok (.getfield 19, 3) := by decide +kernel
theorem d_X_publish_82 : decode b_X_publish 82 = .ok (.iload 5, 2) := by decide +kernel
theorem d_X_publish_84 : decode b_X_publish 84 = .ok (.iload_n 1, 1) := by decide +kernel
theorem d_X_publish_85 : decode b_X_publish 85 = .ok (.invokevirtual 83, 3) := by decide +kernel
theorem d_X_publish_88 : decode b_X_publish 88 = .ok (.ifCond .eq 21, 3) := by decide +kernel
theorem d_X_publish_91 : decode b_X_publish 91 = .ok (.aload_n 0, 1) := by decide +kernel
theorem d_X_publish_92 : decode b_X_publish 92 = .ok (.getfield 19, 3) := by decide +kernel
theorem d_X_publish_95 : decode b_X_publish 95 = .ok (.iload 5, 2) := by decide +kernel
theorem d_X_publish_97 : decode b_X_publish 97 = .ok (.iload_n 2, 1) := by decide +kernel
theorem d_X_publish_98 : decode b_X_publish 98 = .ok (.invokevirtual 87, 3) := by decide +kernel
theorem d_X_publish_101 : decode b_X_publish 101 = .ok (.iconst (-1), 1) := by decide +kernel
theorem d_X_publish_102 : decode b_X_publish 102 = .ok (.if_icmp .ne 7, 3) := by decide +kernel
theorem d_X_publish_105 : decode b_X_publish 105 = .ok (.iconst 1, 1) := by decide +kernel
theorem d_X_publish_106 : decode b_X_publish 106 = .ok (.goto 4, 3) := by decide +kernel
theorem d_X_publish_109 : decode b_X_publish 109 = .ok (.iconst 0, 1) := by decide +kernel
theorem d_X_publish_110 : decode b_X_publish 110 = .ok (.invokestatic 77, 3) := by decide +kernel
theorem d_X_publish_113 : decode b_X_publish 113 = .ok (.aload_n 0, 1) := by decide +kernel
theorem d_X_publish_114 : decode b_X_publish 114 = .ok (.new 91, 3) := by decide +kernel
theorem d_X_publish_117 : decode b_X_publish 117 = .ok (.dup, 1) := by decide +kernel
theorem d_X_publish_118 : decode b_X_publish 118 = .ok (.iconst 0, 1) := by decide +kernel
theorem d_X_publish_119 : decode b_X_publish 119 = .ok (.iload_n 1, 1) := by decide +kernel
theorem d_X_publish_120 : decode b_X_publish 120 = .ok (.aload 4, 2) := by decide +kernel
theorem d_X_publish_122 : decode b_X_publish 122 = .ok (.aload 4, 2) := by decide +kernel
theorem d_X_publish_124 : decode b_X_publish 124 = .ok (.iload_n 2, 1) := by decide +kernel
theorem d_X_publish_125 : decode b_X_publish 125 = .ok (.iload_n 3, 1) := by decide +kernel
theorem d_X_publish_126 : decode b_X_publish 126 = .ok (.iload 5, 2) := by decide +kernel
theorem d_X_publish_128 : decode b_X_publish 128 = .ok (.invokespecial 93, 3) := by decide +kernel
theorem d_X_publish_131 : decode b_X_publish 131 = .ok (.invokevirtual 96, 3) := by decide +kernel
theorem d_X_publish_134 : decode b_X_publish 134 = .ok (.ireturn, 1) := by decide +kernel

abbrev b_X_yank : ByteArray := prog_1_method_4_code
def y_X_yank : MethodName := ⟨"RegistryLog", "yank", "(IIZ)I"⟩
theorem d_X_yank_0 : decode b_X_yank 0 = .ok (.aload_n 0, 1) := by decide +kernel
theorem d_X_yank_1 : decode b_X_yank 1 = .ok (.invokevirtual 48, 3) := by decide +kernel
theorem d_X_yank_4 : decode b_X_yank 4 = .ok (.astore 4, 2) := by decide +kernel
theorem d_X_yank_6 : decode b_X_yank 6 = .ok (.aload 4, 2) := by decide +kernel
theorem d_X_yank_8 : decode b_X_yank 8 = .ok (.invokevirtual 52, 3) := by decide +kernel
theorem d_X_yank_11 : decode b_X_yank 11 = .ok (.ifCond .eq 21, 3) := by decide +kernel
theorem d_X_yank_14 : decode b_X_yank 14 = .ok (.iload_n 1, 1) := by decide +kernel
theorem d_X_yank_15 : decode b_X_yank 15 = .ok (.invokestatic 58, 3) := by decide +kernel
theorem d_X_yank_18 : decode b_X_yank 18 = .ok (.ifCond .eq 14, 3) := by decide +kernel
theorem d_X_yank_21 : decode b_X_yank 21 = .ok (.iload_n 2, 1) := by decide +kernel
theorem d_X_yank_22 : decode b_X_yank 22 = .ok (.invokestatic 62, 3) := by decide +kernel
theorem d_X_yank_25 : decode b_X_yank 25 = .ok (.ifCond .eq 7, 3) := by decide +kernel
theorem d_X_yank_28 : decode b_X_yank 28 = .ok (.iconst 1, 1) := by decide +kernel
theorem d_X_yank_29 : decode b_X_yank 29 = .ok (.goto 4, 3) := by decide +kernel
theorem d_X_yank_32 : decode b_X_yank 32 = .ok (.iconst 0, 1) := by decide +kernel
theorem d_X_yank_33 : decode b_X_yank 33 = .ok (.invokestatic 65, 3) := by decide +kernel
theorem d_X_yank_36 : decode b_X_yank 36 = .ok (.aload_n 0, 1) := by decide +kernel
theorem d_X_yank_37 : decode b_X_yank 37 = .ok (.getfield 19, 3) := by decide +kernel
theorem d_X_yank_40 : decode b_X_yank 40 = .ok (.aload 4, 2) := by decide +kernel
theorem d_X_yank_42 : decode b_X_yank 42 = .ok (.invokevirtual 69, 3) := by decide +kernel
theorem d_X_yank_45 : decode b_X_yank 45 = .ok (.istore 5, 2) := by decide +kernel
theorem d_X_yank_47 : decode b_X_yank 47 = .ok (.aload_n 0, 1) := by decide +kernel
theorem d_X_yank_48 : decode b_X_yank 48 = .ok (.getfield 19, 3) := by decide +kernel
theorem d_X_yank_51 : decode b_X_yank 51 = .ok (.iload 5, 2) := by decide +kernel
theorem d_X_yank_53 : decode b_X_yank 53 = .ok (.iload_n 1, 1) := by decide +kernel
theorem d_X_yank_54 : decode b_X_yank 54 = .ok (.invokevirtual 83, 3) := by decide +kernel
theorem d_X_yank_57 : decode b_X_yank 57 = .ok (.ifCond .eq 35, 3) := by decide +kernel
theorem d_X_yank_60 : decode b_X_yank 60 = .ok (.aload_n 0, 1) := by decide +kernel
theorem d_X_yank_61 : decode b_X_yank 61 = .ok (.getfield 19, 3) := by decide +kernel
theorem d_X_yank_64 : decode b_X_yank 64 = .ok (.iload 5, 2) := by decide +kernel
theorem d_X_yank_66 : decode b_X_yank 66 = .ok (.iload_n 2, 1) := by decide +kernel
theorem d_X_yank_67 : decode b_X_yank 67 = .ok (.invokevirtual 87, 3) := by decide +kernel
theorem d_X_yank_70 : decode b_X_yank 70 = .ok (.iconst (-1), 1) := by decide +kernel
theorem d_X_yank_71 : decode b_X_yank 71 = .ok (.if_icmp .eq 21, 3) := by decide +kernel
theorem d_X_yank_74 : decode b_X_yank 74 = .ok (.aload_n 0, 1) := by decide +kernel
theorem d_X_yank_75 : decode b_X_yank 75 = .ok (.getfield 19, 3) := by decide +kernel
theorem d_X_yank_78 : decode b_X_yank 78 = .ok (.iload 5, 2) := by decide +kernel
theorem d_X_yank_80 : decode b_X_yank 80 = .ok (.iload_n 2, 1) := by decide +kernel
theorem d_X_yank_81 : decode b_X_yank 81 = .ok (.invokevirtual 100, 3) := by decide +kernel
theorem d_X_yank_84 : decode b_X_yank 84 = .ok (.iload_n 3, 1) := by decide +kernel
theorem d_X_yank_85 : decode b_X_yank 85 = .ok (.if_icmp .eq 7, 3) := by decide +kernel
theorem d_X_yank_88 : decode b_X_yank 88 = .ok (.iconst 1, 1) := by decide +kernel
theorem d_X_yank_89 : decode b_X_yank 89 = .ok (.goto 4, 3) := by decide +kernel
theorem d_X_yank_92 : decode b_X_yank 92 = .ok (.iconst 0, 1) := by decide +kernel
theorem d_X_yank_93 : decode b_X_yank 93 = .ok (.invokestatic 77, 3) := by decide +kernel
theorem d_X_yank_96 : decode b_X_yank 96 = .ok (.aload_n 0, 1) := by decide +kernel
theorem d_X_yank_97 : decode b_X_yank 97 = .ok (.new 91, 3) := by decide +kernel
theorem d_X_yank_100 : decode b_X_yank 100 = .ok (.dup, 1) := by decide +kernel
theorem d_X_yank_101 : decode b_X_yank 101 = .ok (.iconst 1, 1) := by decide +kernel
theorem d_X_yank_102 : decode b_X_yank 102 = .ok (.iload_n 1, 1) := by decide +kernel
theorem d_X_yank_103 : decode b_X_yank 103 = .ok (.aload 4, 2) := by decide +kernel
theorem d_X_yank_105 : decode b_X_yank 105 = .ok (.aload 4, 2) := by decide +kernel
theorem d_X_yank_107 : decode b_X_yank 107 = .ok (.iload_n 2, 1) := by decide +kernel
theorem d_X_yank_108 : decode b_X_yank 108 = .ok (.iload_n 3, 1) := by decide +kernel
theorem d_X_yank_109 : decode b_X_yank 109 = .ok (.invokestatic 103, 3) := by decide +kernel
theorem d_X_yank_112 : decode b_X_yank 112 = .ok (.iload 5, 2) := by decide +kernel
theorem d_X_yank_114 : decode b_X_yank 114 = .ok (.invokespecial 93, 3) := by decide +kernel
theorem d_X_yank_117 : decode b_X_yank 117 = .ok (.invokevirtual 96, 3) := by decide +kernel
theorem d_X_yank_120 : decode b_X_yank 120 = .ok (.ireturn, 1) := by decide +kernel

abbrev b_X_grant : ByteArray := prog_1_method_5_code
def y_X_grant : MethodName := ⟨"RegistryLog", "grant", "(IIZ)I"⟩
theorem d_X_grant_0 : decode b_X_grant 0 = .ok (.aload_n 0, 1) := by decide +kernel
theorem d_X_grant_1 : decode b_X_grant 1 = .ok (.invokevirtual 48, 3) := by decide +kernel
theorem d_X_grant_4 : decode b_X_grant 4 = .ok (.astore 4, 2) := by decide +kernel
theorem d_X_grant_6 : decode b_X_grant 6 = .ok (.aload 4, 2) := by decide +kernel
theorem d_X_grant_8 : decode b_X_grant 8 = .ok (.invokevirtual 52, 3) := by decide +kernel
theorem d_X_grant_11 : decode b_X_grant 11 = .ok (.ifCond .eq 21, 3) := by decide +kernel
theorem d_X_grant_14 : decode b_X_grant 14 = .ok (.iload_n 1, 1) := by decide +kernel
theorem d_X_grant_15 : decode b_X_grant 15 = .ok (.invokestatic 58, 3) := by decide +kernel
theorem d_X_grant_18 : decode b_X_grant 18 = .ok (.ifCond .eq 14, 3) := by decide +kernel
theorem d_X_grant_21 : decode b_X_grant 21 = .ok (.iload_n 2, 1) := by decide +kernel
theorem d_X_grant_22 : decode b_X_grant 22 = .ok (.invokestatic 58, 3) := by decide +kernel
theorem d_X_grant_25 : decode b_X_grant 25 = .ok (.ifCond .eq 7, 3) := by decide +kernel
theorem d_X_grant_28 : decode b_X_grant 28 = .ok (.iconst 1, 1) := by decide +kernel
theorem d_X_grant_29 : decode b_X_grant 29 = .ok (.goto 4, 3) := by decide +kernel
theorem d_X_grant_32 : decode b_X_grant 32 = .ok (.iconst 0, 1) := by decide +kernel
theorem d_X_grant_33 : decode b_X_grant 33 = .ok (.invokestatic 65, 3) := by decide +kernel
theorem d_X_grant_36 : decode b_X_grant 36 = .ok (.aload_n 0, 1) := by decide +kernel
theorem d_X_grant_37 : decode b_X_grant 37 = .ok (.getfield 19, 3) := by decide +kernel
theorem d_X_grant_40 : decode b_X_grant 40 = .ok (.aload 4, 2) := by decide +kernel
theorem d_X_grant_42 : decode b_X_grant 42 = .ok (.invokevirtual 69, 3) := by decide +kernel
theorem d_X_grant_45 : decode b_X_grant 45 = .ok (.istore 5, 2) := by decide +kernel
theorem d_X_grant_47 : decode b_X_grant 47 = .ok (.aload_n 0, 1) := by decide +kernel
theorem d_X_grant_48 : decode b_X_grant 48 = .ok (.getfield 19, 3) := by decide +kernel
theorem d_X_grant_51 : decode b_X_grant 51 = .ok (.iload 5, 2) := by decide +kernel
theorem d_X_grant_53 : decode b_X_grant 53 = .ok (.invokevirtual 107, 3) := by decide +kernel
theorem d_X_grant_56 : decode b_X_grant 56 = .ok (.istore 6, 2) := by decide +kernel
theorem d_X_grant_58 : decode b_X_grant 58 = .ok (.iload_n 1, 1) := by decide +kernel
theorem d_X_grant_59 : decode b_X_grant 59 = .ok (.iload 6, 2) := by decide +kernel
theorem d_X_grant_61 : decode b_X_grant 61 = .ok (.if_icmp .ne 27, 3) := by decide +kernel
theorem d_X_grant_64 : decode b_X_grant 64 = .ok (.iload_n 2, 1) := by decide +kernel
theorem d_X_grant_65 : decode b_X_grant 65 = .ok (.iload 6, 2) := by decide +kernel
theorem d_X_grant_67 : decode b_X_grant 67 = .ok (.if_icmp .eq 21, 3) := by decide +kernel
theorem d_X_grant_70 : decode b_X_grant 70 = .ok (.aload_n 0, 1) := by decide +kernel
theorem d_X_grant_71 : decode b_X_grant 71 = .ok (.getfield 19, 3) := by decide +kernel
theorem d_X_grant_74 : decode b_X_grant 74 = .ok (.iload 5, 2) := by decide +kernel
theorem d_X_grant_76 : decode b_X_grant 76 = .ok (.iload_n 2, 1) := by decide +kernel
theorem d_X_grant_77 : decode b_X_grant 77 = .ok (.invokevirtual 83, 3) := by decide +kernel
theorem d_X_grant_80 : decode b_X_grant 80 = .ok (.iload_n 3, 1) := by decide +kernel
theorem d_X_grant_81 : decode b_X_grant 81 = .ok (.if_icmp .eq 7, 3) := by decide +kernel
theorem d_X_grant_84 : decode b_X_grant 84 = .ok (.iconst 1, 1) := by decide +kernel
theorem d_X_grant_85 : decode b_X_grant 85 = .ok (.goto 4, 3) := by decide +kernel
theorem d_X_grant_88 : decode b_X_grant 88 = .ok (.iconst 0, 1) := by decide +kernel
theorem d_X_grant_89 : decode b_X_grant 89 = .ok (.invokestatic 77, 3) := by decide +kernel
theorem d_X_grant_92 : decode b_X_grant 92 = .ok (.aload_n 0, 1) := by decide +kernel
theorem d_X_grant_93 : decode b_X_grant 93 = .ok (.new 91, 3) := by decide +kernel
theorem d_X_grant_96 : decode b_X_grant 96 = .ok (.dup, 1) := by decide +kernel
theorem d_X_grant_97 : decode b_X_grant 97 = .ok (.iconst 2, 1) := by decide +kernel
theorem d_X_grant_98 : decode b_X_grant 98 = .ok (.iload_n 1, 1) := by decide +kernel
theorem d_X_grant_99 : decode b_X_grant 99 = .ok (.aload 4, 2) := by decide +kernel
theorem d_X_grant_101 : decode b_X_grant 101 = .ok (.aload 4, 2) := by decide +kernel
theorem d_X_grant_103 : decode b_X_grant 103 = .ok (.iload_n 2, 1) := by decide +kernel
theorem d_X_grant_104 : decode b_X_grant 104 = .ok (.iload_n 3, 1) := by decide +kernel
theorem d_X_grant_105 : decode b_X_grant 105 = .ok (.invokestatic 103, 3) := by decide +kernel
theorem d_X_grant_108 : decode b_X_grant 108 = .ok (.iload 5, 2) := by decide +kernel
theorem d_X_grant_110 : decode b_X_grant 110 = .ok (.invokespecial 93, 3) := by decide +kernel
theorem d_X_grant_113 : decode b_X_grant 113 = .ok (.invokevirtual 96, 3) := by decide +kernel
theorem d_X_grant_116 : decode b_X_grant 116 = .ok (.ireturn, 1) := by decide +kernel

abbrev b_X_move : ByteArray := prog_1_method_6_code
def y_X_move : MethodName := ⟨"RegistryLog", "move", "(I)I"⟩
theorem d_X_move_0 : decode b_X_move 0 = .ok (.aload_n 0, 1) := by decide +kernel
theorem d_X_move_1 : decode b_X_move 1 = .ok (.invokevirtual 111, 3) := by decide +kernel
theorem d_X_move_4 : decode b_X_move 4 = .ok (.astore_n 2, 1) := by decide +kernel
theorem d_X_move_5 : decode b_X_move 5 = .ok (.aload_n 2, 1) := by decide +kernel
theorem d_X_move_6 : decode b_X_move 6 = .ok (.bipush 62, 2) := by decide +kernel
theorem d_X_move_8 : decode b_X_move 8 = .ok (.invokevirtual 115, 3) := by decide +kernel
theorem d_X_move_11 : decode b_X_move 11 = .ok (.istore_n 3, 1) := by decide +kernel
theorem d_X_move_12 : decode b_X_move 12 = .ok (.iload_n 3, 1) := by decide +kernel
theorem d_X_move_13 : decode b_X_move 13 = .ok (.ifCond .lt 10, 3) := by decide +kernel
theorem d_X_move_16 : decode b_X_move 16 = .ok (.iload_n 1, 1) := by decide +kernel
theorem d_X_move_17 : decode b_X_move 17 = .ok (.invokestatic 58, 3) := by decide +kernel
theorem d_X_move_20 : decode b_X_move 20 = .ok (.ifCond .ne 13, 3) := by decide +kernel
theorem d_X_move_23 : decode b_X_move 23 = .ok (.new 120, 3) := by decide +kernel
theorem d_X_move_26 : decode b_X_move 26 = .ok (.dup, 1) := by decide +kernel
theorem d_X_move_27 : decode b_X_move 27 = .ok (.ldc 122, 2) := by decide +kernel
theorem d_X_move_29 : decode b_X_move 29 = .ok (.invokespecial 124, 3) := by decide +kernel
theorem d_X_move_32 : decode b_X_move 32 = .ok (.athrow, 1) := by decide +kernel
theorem d_X_move_33 : decode b_X_move 33 = .ok (.new 53, 3) := by decide +kernel
theorem d_X_move_36 : decode b_X_move 36 = .ok (.dup, 1) := by decide +kernel
theorem d_X_move_37 : decode b_X_move 37 = .ok (.aload_n 2, 1) := by decide +kernel
theorem d_X_move_38 : decode b_X_move 38 = .ok (.iconst 0, 1) := by decide +kernel
theorem d_X_move_39 : decode b_X_move 39 = .ok (.iload_n 3, 1) := by decide +kernel
theorem d_X_move_40 : decode b_X_move 40 = .ok (.invokevirtual 127, 3) := by decide +kernel
theorem d_X_move_43 : decode b_X_move 43 = .ok (.invokespecial 131, 3) := by decide +kernel
theorem d_X_move_46 : decode b_X_move 46 = .ok (.astore 4, 2) := by decide +kernel
theorem d_X_move_48 : decode b_X_move 48 = .ok (.new 53, 3) := by decide +kernel
theorem d_X_move_51 : decode b_X_move 51 = .ok (.dup, 1) := by decide +kernel
theorem d_X_move_52 : decode b_X_move 52 = .ok (.aload_n 2, 1) := by decide +kernel
theorem d_X_move_53 : decode b_X_move 53 = .ok (.iload_n 3, 1) := by decide +kernel
theorem d_X_move_54 : decode b_X_move 54 = .ok (.iconst 1, 1) := by decide +kernel
theorem d_X_move_55 : decode b_X_move 55 = .ok (.iadd, 1) := by decide +kernel
theorem d_X_move_56 : decode b_X_move 56 = .ok (.aload_n 2, 1) := by decide +kernel
theorem d_X_move_57 : decode b_X_move 57 = .ok (.invokevirtual 132, 3) := by decide +kernel
theorem d_X_move_60 : decode b_X_move 60 = .ok (.invokevirtual 127, 3) := by decide +kernel
theorem d_X_move_63 : decode b_X_move 63 = .ok (.invokespecial 131, 3) := by decide +kernel
theorem d_X_move_66 : decode b_X_move 66 = .ok (.astore 5, 2) := by decide +kernel
theorem d_X_move_68 : decode b_X_move 68 = .ok (.aload 4, 2) := by decide +kernel
theorem d_X_move_70 : decode b_X_move 70 = .ok (.invokevirtual 52, 3) := by decide +kernel
theorem d_X_move_73 : decode b_X_move 73 = .ok (.ifCond .eq 15, 3) := by decide +kernel
theorem d_X_move_76 : decode b_X_move 76 = .ok (.aload 5, 2) := by decide +kernel
theorem d_X_move_78 : decode b_X_move 78 = .ok (.invokevirtual 52, 3) := by decide +kernel
theorem d_X_move_81 : decode b_X_move 81 = .ok (.ifCond .eq 7, 3) := by decide +kernel
theorem d_X_move_84 : decode b_X_move 84 = .ok (.iconst 1, 1) := by decide +kernel
theorem d_X_move_85 : decode b_X_move 85 = .ok (.goto 4, 3) := by decide +kernel
theorem d_X_move_88 : decode b_X_move 88 = .ok (.iconst 0, 1) := by decide +kernel
theorem d_X_move_89 : decode b_X_move 89 = .ok (.invokestatic 65, 3) := by decide +kernel
theorem d_X_move_92 : decode b_X_move 92 = .ok (.aload_n 0, 1) := by decide +kernel
theorem d_X_move_93 : decode b_X_move 93 = .ok (.getfield 19, 3) := by decide +kernel
theorem d_X_move_96 : decode b_X_move 96 = .ok (.aload 4, 2) := by decide +kernel
theorem d_X_move_98 : decode b_X_move 98 = .ok (.invokevirtual 69, 3) := by decide +kernel
theorem d_X_move_101 : decode b_X_move 101 = .ok (.istore 6, 2) := by decide +kernel
theorem d_X_move_103 : decode b_X_move 103 = .ok (.iload_n 1, 1) := by decide +kernel
theorem d_X_move_104 : decode b_X_move 104 = .ok (.aload_n 0, 1) := by decide +kernel
theorem d_X_move_105 : decode b_X_move 105 = .ok (.getfield 19, 3) := by decide +kernel
theorem d_X_move_108 : decode b_X_move 108 = .ok (.iload 6, 2) := by decide +kernel
theorem d_X_move_110 : decode b_X_move 110 = .ok (.invokevirtual 107, 3) := by decide +kernel
theorem d_X_move_113 : decode b_X_move 113 = .ok (.if_icmp .ne 21, 3) := by decide +kernel
theorem d_X_move_116 : decode b_X_move 116 = .ok (.aload_n 0, 1) := by decide +kernel
theorem d_X_move_117 : decode b_X_move 117 = .ok (.getfield 19, 3) := by decide +kernel
theorem d_X_move_120 : decode b_X_move 120 = .ok (.aload 5, 2) := by decide +kernel
theorem d_X_move_122 : decode b_X_move 122 = .ok (.iload 6, 2) := by decide +kernel
theorem d_X_move_124 : decode b_X_move 124 = .ok (.invokevirtual 73, 3) := by decide +kernel
theorem d_X_move_127 : decode b_X_move 127 = .ok (.ifCond .eq 7, 3) := by decide +kernel
theorem d_X_move_130 : decode b_X_move 130 = .ok (.iconst 1, 1) := by decide +kernel
theorem d_X_move_131 : decode b_X_move 131 = .ok (.goto 4, 3) := by decide +kernel
theorem d_X_move_134 : decode b_X_move 134 = .ok (.iconst 0, 1) := by decide +kernel
theorem d_X_move_135 : decode b_X_move 135 = .ok (.invokestatic 77, 3) := by decide +kernel
theorem d_X_move_138 : decode b_X_move 138 = .ok (.aload_n 0, 1) := by decide +kernel
theorem d_X_move_139 : decode b_X_move 139 = .ok (.new 91, 3) := by decide +kernel
theorem d_X_move_142 : decode b_X_move 142 = .ok (.dup, 1) := by decide +kernel
theorem d_X_move_143 : decode b_X_move 143 = .ok (.iconst 3, 1) := by decide +kernel
theorem d_X_move_144 : decode b_X_move 144 = .ok (.iload_n 1, 1) := by decide +kernel
theorem d_X_move_145 : decode b_X_move 145 = .ok (.aload 4, 2) := by decide +kernel
theorem d_X_move_147 : decode b_X_move 147 = .ok (.aload 5, 2) := by decide +kernel
theorem d_X_move_149 : decode b_X_move 149 = .ok (.iconst (-1), 1) := by decide +kernel
theorem d_X_move_150 : decode b_X_move 150 = .ok (.iconst 0, 1) := by decide +kernel
theorem d_X_move_151 : decode b_X_move 151 = .ok (.iload 6, 2) := by decide +kernel
theorem d_X_move_153 : decode b_X_move 153 = .ok (.invokespecial 93, 3) := by decide +kernel
theorem d_X_move_156 : decode b_X_move 156 = .ok (.invokevirtual 96, 3) := by decide +kernel
theorem d_X_move_159 : decode b_X_move 159 = .ok (.ireturn, 1) := by decide +kernel

abbrev b_X_rows : ByteArray := prog_1_method_7_code
def y_X_rows : MethodName := ⟨"RegistryLog", "rows", "()I"⟩
theorem d_X_rows_0 : decode b_X_rows 0 = .ok (.aload_n 0, 1) := by decide +kernel
theorem d_X_rows_1 : decode b_X_rows 1 = .ok (.getfield 19, 3) := by decide +kernel
theorem d_X_rows_4 : decode b_X_rows 4 = .ok (.invokevirtual 80, 3) := by decide +kernel
theorem d_X_rows_7 : decode b_X_rows 7 = .ok (.ireturn, 1) := by decide +kernel

abbrev b_X_row : ByteArray := prog_1_method_8_code
def y_X_row : MethodName := ⟨"RegistryLog", "row", "(II)I"⟩
theorem d_X_row_0 : decode b_X_row 0 = .ok (.aload_n 0, 1) := by decide +kernel
theorem d_X_row_1 : decode b_X_row 1 = .ok (.getfield 19, 3) := by decide +kernel
theorem d_X_row_4 : decode b_X_row 4 = .ok (.iload_n 1, 1) := by decide +kernel
theorem d_X_row_5 : decode b_X_row 5 = .ok (.invokevirtual 133, 3) := by decide +kernel
theorem d_X_row_8 : decode b_X_row 8 = .ok (.astore_n 3, 1) := by decide +kernel
theorem d_X_row_9 : decode b_X_row 9 = .ok (.iload_n 2, 1) := by decide +kernel
theorem d_X_row_10 : decode b_X_row 10 = .ok (.tableswitch 50 0 3 #[30, 35, 40, 45], 30) := by decide +kernel
theorem d_X_row_40 : decode b_X_row 40 = .ok (.aload_n 3, 1) := by decide +kernel
theorem d_X_row_41 : decode b_X_row 41 = .ok (.getfield 137, 3) := by decide +kernel
theorem d_X_row_44 : decode b_X_row 44 = .ok (.ireturn, 1) := by decide +kernel
theorem d_X_row_45 : decode b_X_row 45 = .ok (.aload_n 3, 1) := by decide +kernel
theorem d_X_row_46 : decode b_X_row 46 = .ok (.getfield 141, 3) := by decide +kernel
theorem d_X_row_49 : decode b_X_row 49 = .ok (.ireturn, 1) := by decide +kernel
theorem d_X_row_50 : decode b_X_row 50 = .ok (.aload_n 3, 1) := by decide +kernel
theorem d_X_row_51 : decode b_X_row 51 = .ok (.getfield 144, 3) := by decide +kernel
theorem d_X_row_54 : decode b_X_row 54 = .ok (.ireturn, 1) := by decide +kernel
theorem d_X_row_55 : decode b_X_row 55 = .ok (.aload_n 3, 1) := by decide +kernel
theorem d_X_row_56 : decode b_X_row 56 = .ok (.getfield 147, 3) := by decide +kernel
theorem d_X_row_59 : decode b_X_row 59 = .ok (.ireturn, 1) := by decide +kernel
theorem d_X_row_60 : decode b_X_row 60 = .ok (.iconst (-1), 1) := by decide +kernel
theorem d_X_row_61 : decode b_X_row 61 = .ok (.ireturn, 1) := by decide +kernel

abbrev b_X_digest : ByteArray := prog_1_method_9_code
def y_X_digest : MethodName := ⟨"RegistryLog", "digest", "(I)J"⟩
theorem d_X_digest_0 : decode b_X_digest 0 = .ok (.aload_n 0, 1) := by decide +kernel
theorem d_X_digest_1 : decode b_X_digest 1 = .ok (.getfield 19, 3) := by decide +kernel
theorem d_X_digest_4 : decode b_X_digest 4 = .ok (.iload_n 1, 1) := by decide +kernel
theorem d_X_digest_5 : decode b_X_digest 5 = .ok (.invokevirtual 133, 3) := by decide +kernel
theorem d_X_digest_8 : decode b_X_digest 8 = .ok (.getfield 150, 3) := by decide +kernel
theorem d_X_digest_11 : decode b_X_digest 11 = .ok (.lreturn, 1) := by decide +kernel

abbrev b_X_head : ByteArray := prog_1_method_10_code
def y_X_head : MethodName := ⟨"RegistryLog", "head", "(I)J"⟩
theorem d_X_head_0 : decode b_X_head 0 = .ok (.iload_n 1, 1) := by decide +kernel
theorem d_X_head_1 : decode b_X_head 1 = .ok (.aload_n 0, 1) := by decide +kernel
theorem d_X_head_2 : decode b_X_head 2 = .ok (.getfield 19, 3) := by decide +kernel
theorem d_X_head_5 : decode b_X_head 5 = .ok (.invokevirtual 80, 3) := by decide +kernel
theorem d_X_head_8 : decode b_X_head 8 = .ok (.if_icmp .le 7, 3) := by decide +kernel
theorem d_X_head_11 : decode b_X_head 11 = .ok (.lconst 0, 1) := by decide +kernel
theorem d_X_head_12 : decode b_X_head 12 = .ok (.goto 12, 3) := by decide +kernel
theorem d_X_head_15 : decode b_X_head 15 = .ok (.aload_n 0, 1) := by decide +kernel
theorem d_X_head_16 : decode b_X_head 16 = .ok (.getfield 19, 3) := by decide +kernel
theorem d_X_head_19 : decode b_X_head 19 = .ok (.iconst 0, 1) := by decide +kernel
theorem d_X_head_20 : decode b_X_head 20 = .ok (.iload_n 1, 1) := by decide +kernel
theorem d_X_head_21 : decode b_X_head 21 = .ok (.invokestatic 154, 3) := by decide +kernel
theorem d_X_head_24 : decode b_X_head 24 = .ok (.lreturn, 1) := by decide +kernel

abbrev b_X_inside : ByteArray := prog_1_method_11_code
def y_X_inside : MethodName := ⟨"RegistryLog", "inside", "(II)I"⟩
theorem d_X_inside_0 : decode b_X_inside 0 = .ok (.aload_n 0, 1) := by decide +kernel
theorem d_X_inside_1 : decode b_X_inside 1 = .ok (.getfield 33, 3) := by decide +kernel
theorem d_X_inside_4 : decode b_X_inside 4 = .ok (.invokevirtual 160, 3) := by decide +kernel
theorem d_X_inside_7 : decode b_X_inside 7 = .ok (.iload_n 2, 1) := by decide +kernel
theorem d_X_inside_8 : decode b_X_inside 8 = .ok (.aload_n 0, 1) := by decide +kernel
theorem d_X_inside_9 : decode b_X_inside 9 = .ok (.getfield 19, 3) := by decide +kernel
theorem d_X_inside_12 : decode b_X_inside 12 = .ok (.invokevirtual 80, 3) := by decide +kernel
theorem d_X_inside_15 : decode b_X_inside 15 = .ok (.if_icmp .gt 12, 3) := by decide +kernel
theorem d_X_inside_18 : decode b_X_inside 18 = .ok (.iload_n 1, 1) := by decide +kernel
theorem d_X_inside_19 : decode b_X_inside 19 = .ok (.ifCond .lt 8, 3) := by decide +kernel
theorem d_X_inside_22 : decode b_X_inside 22 = .ok (.iload_n 1, 1) := by decide +kernel
theorem d_X_inside_23 : decode b_X_inside 23 = .ok (.iload_n 2, 1) := by decide +kernel
theorem d_X_inside_24 : decode b_X_inside 24 = .ok (.if_icmp .lt 5, 3) := by decide +kernel
theorem d_X_inside_27 : decode b_X_inside 27 = .ok (.iconst (-1), 1) := by decide +kernel
theorem d_X_inside_28 : decode b_X_inside 28 = .ok (.ireturn, 1) := by decide +kernel
theorem d_X_inside_29 : decode b_X_inside 29 = .ok (.aload_n 0, 1) := by decide +kernel
theorem d_X_inside_30 : decode b_X_inside 30 = .ok (.getfield 19, 3) := by decide +kernel
theorem d_X_inside_33 : decode b_X_inside 33 = .ok (.iconst 0, 1) := by decide +kernel
theorem d_X_inside_34 : decode b_X_inside 34 = .ok (.iload_n 2, 1) := by decide +kernel
theorem d_X_inside_35 : decode b_X_inside 35 = .ok (.iload_n 1, 1) := by decide +kernel
theorem d_X_inside_36 : decode b_X_inside 36 = .ok (.aload_n 0, 1) := by decide +kernel
theorem d_X_inside_37 : decode b_X_inside 37 = .ok (.getfield 33, 3) := by decide +kernel
theorem d_X_inside_40 : decode b_X_inside 40 = .ok (.invokestatic 163, 3) := by decide +kernel
theorem d_X_inside_43 : decode b_X_inside 43 = .ok (.aload_n 0, 1) := by decide +kernel
theorem d_X_inside_44 : decode b_X_inside 44 = .ok (.getfield 33, 3) := by decide +kernel
theorem d_X_inside_47 : decode b_X_inside 47 = .ok (.invokevirtual 167, 3) := by decide +kernel
theorem d_X_inside_50 : decode b_X_inside 50 = .ok (.ireturn, 1) := by decide +kernel

abbrev b_X_growth : ByteArray := prog_1_method_12_code
def y_X_growth : MethodName := ⟨"RegistryLog", "growth", "(II)I"⟩
theorem d_X_growth_0 : decode b_X_growth 0 = .ok (.aload_n 0, 1) := by decide +kernel
theorem d_X_growth_1 : decode b_X_growth 1 = .ok (.getfield 33, 3) := by decide +kernel
theorem d_X_growth_4 : decode b_X_growth 4 = .ok (.invokevirtual 160, 3) := by decide +kernel
theorem d_X_growth_7 : decode b_X_growth 7 = .ok (.iload_n 2, 1) := by decide +kernel
theorem d_X_growth_8 : decode b_X_growth 8 = .ok (.aload_n 0, 1) := by decide +kernel
theorem d_X_growth_9 : decode b_X_growth 9 = .ok (.getfield 19, 3) := by decide +kernel
theorem d_X_growth_12 : decode b_X_growth 12 = .ok (.invokevirtual 80, 3) := by decide +kernel
theorem d_X_growth_15 : decode b_X_growth 15 = .ok (.if_icmp .gt 13, 3) := by decide +kernel
theorem d_X_growth_18 : decode b_X_growth 18 = .ok (.iload_n 1, 1) := by decide +kernel
theorem d_X_growth_19 : decode b_X_growth 19 = .ok (.iconst 1, 1) := by decide +kernel
theorem d_X_growth_20 : decode b_X_growth 20 = .ok (.if_icmp .lt 8, 3) := by decide +kernel
theorem d_X_growth_23 : decode b_X_growth 23 = .ok (.iload_n 1, 1) := by decide +kernel
theorem d_X_growth_24 : decode b_X_growth 24 = .ok (.iload_n 2, 1) := by decide +kernel
theorem d_X_growth_25 : decode b_X_growth 25 = .ok (.if_icmp .le 5, 3) := by decide +kernel
theorem d_X_growth_28 : decode b_X_growth 28 = .ok (.iconst (-1), 1) := by decide +kernel
theorem d_X_growth_29 : decode b_X_growth 29 = .ok (.ireturn, 1) := by decide +kernel
theorem d_X_growth_30 : decode b_X_growth 30 = .ok (.aload_n 0, 1) := by decide +kernel
theorem d_X_growth_31 : decode b_X_growth 31 = .ok (.getfield 19, 3) := by decide +kernel
theorem d_X_growth_34 : decode b_X_growth 34 = .ok (.iconst 0, 1) := by decide +kernel
theorem d_X_growth_35 : decode b_X_growth 35 = .ok (.iload_n 2, 1) := by decide +kernel
theorem d_X_growth_36 : decode b_X_growth 36 = .ok (.iload_n 1, 1) := by decide +kernel
theorem d_X_growth_37 : decode b_X_growth 37 = .ok (.iconst 1, 1) := by decide +kernel
theorem d_X_growth_38 : decode b_X_growth 38 = .ok (.aload_n 0, 1) := by decide +kernel
theorem d_X_growth_39 : decode b_X_growth 39 = .ok (.getfield 33, 3) := by decide +kernel
theorem d_X_growth_42 : decode b_X_growth 42 = .ok (.invokestatic 168, 3) := by decide +kernel
theorem d_X_growth_45 : decode b_X_growth 45 = .ok (.aload_n 0, 1) := by decide +kernel
theorem d_X_growth_46 : decode b_X_growth 46 = .ok (.getfield 33, 3) := by decide +kernel
theorem d_X_growth_49 : decode b_X_growth 49 = .ok (.invokevirtual 167, 3) := by decide +kernel
theorem d_X_growth_52 : decode b_X_growth 52 = .ok (.ireturn, 1) := by decide +kernel

abbrev b_X_proof : ByteArray := prog_1_method_13_code
def y_X_proof : MethodName := ⟨"RegistryLog", "proof", "(I)J"⟩
theorem d_X_proof_0 : decode b_X_proof 0 = .ok (.aload_n 0, 1) := by decide +kernel
theorem d_X_proof_1 : decode b_X_proof 1 = .ok (.getfield 33, 3) := by decide +kernel
theorem d_X_proof_4 : decode b_X_proof 4 = .ok (.iload_n 1, 1) := by decide +kernel
theorem d_X_proof_5 : decode b_X_proof 5 = .ok (.invokevirtual 172, 3) := by decide +kernel
theorem d_X_proof_8 : decode b_X_proof 8 = .ok (.lreturn, 1) := by decide +kernel

abbrev b_X_take : ByteArray := prog_1_method_14_code
def y_X_take : MethodName := ⟨"RegistryLog", "take", "(J)Z"⟩
theorem d_X_take_0 : decode b_X_take 0 = .ok (.aload_n 0, 1) := by decide +kernel
theorem d_X_take_1 : decode b_X_take 1 = .ok (.getfield 37, 3) := by decide +kernel
theorem d_X_take_4 : decode b_X_take 4 = .ok (.lload_n 1, 1) := by decide +kernel
theorem d_X_take_5 : decode b_X_take 5 = .ok (.invokevirtual 176, 3) := by decide +kernel
theorem d_X_take_8 : decode b_X_take 8 = .ok (.ireturn, 1) := by decide +kernel

abbrev b_X_isInside : ByteArray := prog_1_method_15_code
def y_X_isInside : MethodName := ⟨"RegistryLog", "isInside", "(IIJJ)Z"⟩
theorem d_X_isInside_0 : decode b_X_isInside 0 = .ok (.iconst 0, 1) := by decide +kernel
theorem d_X_isInside_1 : decode b_X_isInside 1 = .ok (.istore 7, 2) := by decide +kernel
theorem d_X_isInside_3 : decode b_X_isInside 3 = .ok (.iload_n 2, 1) := by decide +kernel
theorem d_X_isInside_4 : decode b_X_isInside 4 = .ok (.bipush 120, 2) := by decide +kernel
theorem d_X_isInside_6 : decode b_X_isInside 6 = .ok (.if_icmp .gt 49, 3) := by decide +kernel
theorem d_X_isInside_9 : decode b_X_isInside 9 = .ok (.iload_n 1, 1) := by decide +kernel
theorem d_X_isInside_10 : decode b_X_isInside 10 = .ok (.ifCond .lt 45, 3) := by decide +kernel
theorem d_X_isInside_13 : decode b_X_isInside 13 = .ok (.iload_n 1, 1) := by decide +kernel
theorem d_X_isInside_14 : decode b_X_isInside 14 = .ok (.iload_n 2, 1) := by decide +kernel
theorem d_X_isInside_15 : decode b_X_isInside 15 = .ok (.if_icmp .ge 40, 3) := by decide +kernel
theorem d_X_isInside_18 : decode b_X_isInside 18 = .ok (.iload_n 1, 1) := by decide +kernel
theorem d_X_isInside_19 : decode b_X_isInside 19 = .ok (.iload_n 2, 1) := by decide +kernel
theorem d_X_isInside_20 : decode b_X_isInside 20 = .ok (.lload_n 3, 1) := by decide +kernel
theorem d_X_isInside_21 : decode b_X_isInside 21 = .ok (.aload_n 0, 1) := by decide +kernel
theorem d_X_isInside_22 : decode b_X_isInside 22 = .ok (.getfield 37, 3) := by decide +kernel
theorem d_X_isInside_25 : decode b_X_isInside 25 = .ok (.invokestatic 180, 3) := by decide +kernel
theorem d_X_isInside_28 : decode b_X_isInside 28 = .ok (.lstore 8, 2) := by decide +kernel
theorem d_X_isInside_30 : decode b_X_isInside 30 = .ok (.lload 8, 2) := by decide +kernel
theorem d_X_isInside_32 : decode b_X_isInside 32 = .ok (.lload 5, 2) := by decide +kernel
theorem d_X_isInside_34 : decode b_X_isInside 34 = .ok (.lcmp, 1) := by decide +kernel
theorem d_X_isInside_35 : decode b_X_isInside 35 = .ok (.ifCond .ne 17, 3) := by decide +kernel
theorem d_X_isInside_38 : decode b_X_isInside 38 = .ok (.aload_n 0, 1) := by decide +kernel
theorem d_X_isInside_39 : decode b_X_isInside 39 = .ok (.getfield 37, 3) := by decide +kernel
theorem d_X_isInside_42 : decode b_X_isInside 42 = .ok (.invokevirtual 184, 3) := by decide +kernel
theorem d_X_isInside_45 : decode b_X_isInside 45 = .ok (.ifCond .eq 7, 3) := by decide +kernel
theorem d_X_isInside_48 : decode b_X_isInside 48 = .ok (.iconst 1, 1) := by decide +kernel
theorem d_X_isInside_49 : decode b_X_isInside 49 = .ok (.goto 4, 3) := by decide +kernel
theorem d_X_isInside_52 : decode b_X_isInside 52 = .ok (.iconst 0, 1) := by decide +kernel
theorem d_X_isInside_53 : decode b_X_isInside 53 = .ok (.istore 7, 2) := by decide +kernel
theorem d_X_isInside_55 : decode b_X_isInside 55 = .ok (.aload_n 0, 1) := by decide +kernel
theorem d_X_isInside_56 : decode b_X_isInside 56 = .ok (.getfield 37, 3) := by decide +kernel
theorem d_X_isInside_59 : decode b_X_isInside 59 = .ok (.invokevirtual 160, 3) := by decide +kernel
theorem d_X_isInside_62 : decode b_X_isInside 62 = .ok (.iload 7, 2) := by decide +kernel
theorem d_X_isInside_64 : decode b_X_isInside 64 = .ok (.ireturn, 1) := by decide +kernel

abbrev b_X_isGrowth : ByteArray := prog_1_method_16_code
def y_X_isGrowth : MethodName := ⟨"RegistryLog", "isGrowth", "(IIJJ)Z"⟩
theorem d_X_isGrowth_0 : decode b_X_isGrowth 0 = .ok (.iconst 0, 1) := by decide +kernel
theorem d_X_isGrowth_1 : decode b_X_isGrowth 1 = .ok (.istore 7, 2) := by decide +kernel
theorem d_X_isGrowth_3 : decode b_X_isGrowth 3 = .ok (.iload_n 2, 1) := by decide +kernel
theorem d_X_isGrowth_4 : decode b_X_isGrowth 4 = .ok (.bipush 120, 2) := by decide +kernel
theorem d_X_isGrowth_6 : decode b_X_isGrowth 6 = .ok (.if_icmp .gt 64, 3) := by decide +kernel
theorem d_X_isGrowth_9 : decode b_X_isGrowth 9 = .ok (.iload_n 1, 1) := by decide +kernel
theorem d_X_isGrowth_10 : decode b_X_isGrowth 10 = .ok (.iconst 1, 1) := by decide +kernel
theorem d_X_isGrowth_11 : decode b_X_isGrowth 11 = .ok (.if_icmp .lt 59, 3) := by decide +kernel
theorem d_X_isGrowth_14 : decode b_X_isGrowth 14 = .ok (.iload_n 1, 1) := by decide +kernel
theorem d_X_isGrowth_15 : decode b_X_isGrowth 15 = .ok (.iload_n 2, 1) := by decide +kernel
theorem d_X_isGrowth_16 : decode b_X_isGrowth 16 = .ok (.if_icmp .gt 54, 3) := by decide +kernel
theorem d_X_isGrowth_19 : decode b_X_isGrowth 19 = .ok (.iload_n 1, 1) := by decide +kernel
theorem d_X_isGrowth_20 : decode b_X_isGrowth 20 = .ok (.iload_n 2, 1) := by decide +kernel
theorem d_X_isGrowth_21 : decode b_X_isGrowth 21 = .ok (.iconst 1, 1) := by decide +kernel
theorem d_X_isGrowth_22 : decode b_X_isGrowth 22 = .ok (.lload_n 3, 1) := by decide +kernel
theorem d_X_isGrowth_23 : decode b_X_isGrowth 23 = .ok (.aload_n 0, 1) := by decide +kernel
theorem d_X_isGrowth_24 : decode b_X_isGrowth 24 = .ok (.getfield 37, 3) := by decide +kernel
theorem d_X_isGrowth_27 : decode b_X_isGrowth 27 = .ok (.invokestatic 187, 3) := by decide +kernel
theorem d_X_isGrowth_30 : decode b_X_isGrowth 30 = .ok (.astore 8, 2) := by decide +kernel
theorem d_X_isGrowth_32 : decode b_X_isGrowth 32 = .ok (.aload 8, 2) := by decide +kernel
theorem d_X_isGrowth_34 : decode b_X_isGrowth 34 = .ok (.getfield 191, 3) := by decide +kernel
theorem d_X_isGrowth_37 : decode b_X_isGrowth 37 = .ok (.lload_n 3, 1) := by decide +kernel
theorem d_X_isGrowth_38 : decode b_X_isGrowth 38 = .ok (.lcmp, 1) := by decide +kernel
theorem d_X_isGrowth_39 : decode b_X_isGrowth 39 = .ok (.ifCond .ne 28, 3) := by decide +kernel
theorem d_X_isGrowth_42 : decode b_X_isGrowth 42 = .ok (.aload 8, 2) := by decide +kernel
theorem d_X_isGrowth_44 : decode b_X_isGrowth 44 = .ok (.getfield 196, 3) := by decide +kernel
theorem d_X_isGrowth_47 : decode b_X_isGrowth 47 = .ok (.lload 5, 2) := by decide +kernel
theorem d_X_isGrowth_49 : decode b_X_isGrowth 49 = .ok (.lcmp, 1) := by decide +kernel
theorem d_X_isGrowth_50 : decode b_X_isGrowth 50 = .ok (.ifCond .ne 17, 3) := by decide +kernel
theorem d_X_isGrowth_53 : decode b_X_isGrowth 53 = .ok (.aload_n 0, 1) := by decide +kernel
theorem d_X_isGrowth_54 : decode b_X_isGrowth 54 = .ok (.getfield 37, 3) := by decide +kernel
theorem d_X_isGrowth_57 : decode b_X_isGrowth 57 = .ok (.invokevirtual 184, 3) := by decide +kernel
theorem d_X_isGrowth_60 : decode b_X_isGrowth 60 = .ok (.ifCond .eq 7, 3) := by decide +kernel
theorem d_X_isGrowth_63 : decode b_X_isGrowth 63 = .ok (.iconst 1, 1) := by decide +kernel
theorem d_X_isGrowth_64 : decode b_X_isGrowth 64 = .ok (.goto 4, 3) := by decide +kernel
theorem d_X_isGrowth_67 : decode b_X_isGrowth 67 = .ok (.iconst 0, 1) := by decide +kernel
theorem d_X_isGrowth_68 : decode b_X_isGrowth 68 = .ok (.istore 7, 2) := by decide +kernel
theorem d_X_isGrowth_70 : decode b_X_isGrowth 70 = .ok (.aload_n 0, 1) := by decide +kernel
theorem d_X_isGrowth_71 : decode b_X_isGrowth 71 = .ok (.getfield 37, 3) := by decide +kernel
theorem d_X_isGrowth_74 : decode b_X_isGrowth 74 = .ok (.invokevirtual 160, 3) := by decide +kernel
theorem d_X_isGrowth_77 : decode b_X_isGrowth 77 = .ok (.iload 7, 2) := by decide +kernel
theorem d_X_isGrowth_79 : decode b_X_isGrowth 79 = .ok (.ireturn, 1) := by decide +kernel

abbrev b_X_follow : ByteArray := prog_1_method_17_code
def y_X_follow : MethodName := ⟨"RegistryLog", "follow", "(II)I"⟩
theorem d_X_follow_0 : decode b_X_follow 0 = .ok (.iload_n 1, 1) := by decide +kernel
theorem d_X_follow_1 : decode b_X_follow 1 = .ok (.invokestatic 199, 3) := by decide +kernel
theorem d_X_follow_4 : decode b_X_follow 4 = .ok (.ifCond .eq 7, 3) := by decide +kernel
theorem d_X_follow_7 : decode b_X_follow 7 = .ok (.iload_n 2, 1) := by decide +kernel
theorem d_X_follow_8 : decode b_X_follow 8 = .ok (.ifCond .ge 5, 3) := by decide +kernel
theorem d_X_follow_11 : decode b_X_follow 11 = .ok (.iconst (-1), 1) := by decide +kernel
theorem d_X_follow_12 : decode b_X_follow 12 = .ok (.ireturn, 1) := by decide +kernel
theorem d_X_follow_13 : decode b_X_follow 13 = .ok (.aload_n 0, 1) := by decide +kernel
theorem d_X_follow_14 : decode b_X_follow 14 = .ok (.iload_n 1, 1) := by decide +kernel
theorem d_X_follow_15 : decode b_X_follow 15 = .ok (.invokevirtual 202, 3) := by decide +kernel
theorem d_X_follow_18 : decode b_X_follow 18 = .ok (.astore_n 3, 1) := by decide +kernel
theorem d_X_follow_19 : decode b_X_follow 19 = .ok (.aload_n 3, 1) := by decide +kernel
theorem d_X_follow_20 : decode b_X_follow 20 = .ok (.invokevirtual 80, 3) := by decide +kernel
theorem d_X_follow_23 : decode b_X_follow 23 = .ok (.istore 4, 2) := by decide +kernel
theorem d_X_follow_25 : decode b_X_follow 25 = .ok (.iload_n 2, 1) := by decide +kernel
theorem d_X_follow_26 : decode b_X_follow 26 = .ok (.aload_n 0, 1) := by decide +kernel
theorem d_X_follow_27 : decode b_X_follow 27 = .ok (.getfield 19, 3) := by decide +kernel
theorem d_X_follow_30 : decode b_X_follow 30 = .ok (.invokevirtual 80, 3) := by decide +kernel
theorem d_X_follow_33 : decode b_X_follow 33 = .ok (.iload 4, 2) := by decide +kernel
theorem d_X_follow_35 : decode b_X_follow 35 = .ok (.isub, 1) := by decide +kernel
theorem d_X_follow_36 : decode b_X_follow 36 = .ok (.invokestatic 206, 3) := by decide +kernel
theorem d_X_follow_39 : decode b_X_follow 39 = .ok (.istore 5, 2) := by decide +kernel
theorem d_X_follow_41 : decode b_X_follow 41 = .ok (.iconst 0, 1) := by decide +kernel
theorem d_X_follow_42 : decode b_X_follow 42 = .ok (.istore 6, 2) := by decide +kernel
theorem d_X_follow_44 : decode b_X_follow 44 = .ok (.iload 6, 2) := by decide +kernel
theorem d_X_follow_46 : decode b_X_follow 46 = .ok (.iload 5, 2) := by decide +kernel
theorem d_X_follow_48 : decode b_X_follow 48 = .ok (.if_icmp .ge 25, 3) := by decide +kernel
theorem d_X_follow_51 : decode b_X_follow 51 = .ok (.aload_n 3, 1) := by decide +kernel
theorem d_X_follow_52 : decode b_X_follow 52 = .ok (.aload_n 0, 1) := by decide +kernel
theorem d_X_follow_53 : decode b_X_follow 53 = .ok (.getfield 19, 3) := by decide +kernel
theorem d_X_follow_56 : decode b_X_follow 56 = .ok (.iload 4, 2) := by decide +kernel
theorem d_X_follow_58 : decode b_X_follow 58 = .ok (.iload 6, 2) := by decide +kernel
theorem d_X_follow_60 : decode b_X_follow 60 = .ok (.iadd, 1) := by decide +kernel
theorem d_X_follow_61 : decode b_X_follow 61 = .ok (.invokevirtual 133, 3) := by decide +kernel
theorem d_X_follow_64 : decode b_X_follow 64 = .ok (.invokevirtual 211, 3) := by decide +kernel
theorem d_X_follow_67 : decode b_X_follow 67 = .ok (.iinc 6 1, 3) := by decide +kernel
theorem d_X_follow_70 : decode b_X_follow 70 = .ok (.goto (-26), 3) := by decide +kernel
theorem d_X_follow_73 : decode b_X_follow 73 = .ok (.iload 5, 2) := by decide +kernel
theorem d_X_follow_75 : decode b_X_follow 75 = .ok (.ireturn, 1) := by decide +kernel

abbrev b_X_spoil : ByteArray := prog_1_method_18_code
def y_X_spoil : MethodName := ⟨"RegistryLog", "spoil", "(III)Z"⟩
theorem d_X_spoil_0 : decode b_X_spoil 0 = .ok (.aload_n 0, 1) := by decide +kernel
theorem d_X_spoil_1 : decode b_X_spoil 1 = .ok (.iload_n 1, 1) := by decide +kernel
theorem d_X_spoil_2 : decode b_X_spoil 2 = .ok (.invokevirtual 202, 3) := by decide +kernel
theorem d_X_spoil_5 : decode b_X_spoil 5 = .ok (.astore 4, 2) := by decide +kernel
theorem d_X_spoil_7 : decode b_X_spoil 7 = .ok (.aload 4, 2) := by decide +kernel
theorem d_X_spoil_9 : decode b_X_spoil 9 = .ok (.iload_n 2, 1) := by decide +kernel
theorem d_X_spoil_10 : decode b_X_spoil 10 = .ok (.invokevirtual 133, 3) := by decide +kernel
theorem d_X_spoil_13 : decode b_X_spoil 13 = .ok (.astore 5, 2) := by decide +kernel
theorem d_X_spoil_15 : decode b_X_spoil 15 = .ok (.aload 5, 2) := by decide +kernel
theorem d_X_spoil_17 : decode b_X_spoil 17 = .ok (.getfield 137, 3) := by decide +kernel
theorem d_X_spoil_20 : decode b_X_spoil 20 = .ok (.ifCond .eq 5, 3) := by decide +kernel
theorem d_X_spoil_23 : decode b_X_spoil 23 = .ok (.iconst 0, 1) := by decide +kernel
theorem d_X_spoil_24 : decode b_X_spoil 24 = .ok (.ireturn, 1) := by decide +kernel
theorem d_X_spoil_25 : decode b_X_spoil 25 = .ok (.aload 4, 2) := by decide +kernel
theorem d_X_spoil_27 : decode b_X_spoil 27 = .ok (.iload_n 2, 1) := by decide +kernel
theorem d_X_spoil_28 : decode b_X_spoil 28 = .ok (.aload 5, 2) := by decide +kernel
theorem d_X_spoil_30 : decode b_X_spoil 30 = .ok (.iload_n 3, 1) := by decide +kernel
theorem d_X_spoil_31 : decode b_X_spoil 31 = .ok (.invokevirtual 214, 3) := by decide +kernel
theorem d_X_spoil_34 : decode b_X_spoil 34 = .ok (.invokevirtual 217, 3) := by decide +kernel
theorem d_X_spoil_37 : decode b_X_spoil 37 = .ok (.iconst 1, 1) := by decide +kernel
theorem d_X_spoil_38 : decode b_X_spoil 38 = .ok (.ireturn, 1) := by decide +kernel

abbrev b_X_mirrored : ByteArray := prog_1_method_19_code
def y_X_mirrored : MethodName := ⟨"RegistryLog", "mirrored", "(I)J"⟩
theorem d_X_mirrored_0 : decode b_X_mirrored 0 = .ok (.aload_n 0, 1) := by decide +kernel
theorem d_X_mirrored_1 : decode b_X_mirrored 1 = .ok (.iload_n 1, 1) := by decide +kernel
theorem d_X_mirrored_2 : decode b_X_mirrored 2 = .ok (.invokevirtual 202, 3) := by decide +kernel
theorem d_X_mirrored_5 : decode b_X_mirrored 5 = .ok (.astore_n 2, 1) := by decide +kernel
theorem d_X_mirrored_6 : decode b_X_mirrored 6 = .ok (.aload_n 2, 1) := by decide +kernel
theorem d_X_mirrored_7 : decode b_X_mirrored 7 = .ok (.iconst 0, 1) := by decide +kernel
theorem d_X_mirrored_8 : decode b_X_mirrored 8 = .ok (.aload_n 2, 1) := by decide +kernel
theorem d_X_mirrored_9 : decode b_X_mirrored 9 = .ok (.invokevirtual 80, 3) := by decide +kernel
theorem d_X_mirrored_12 : decode b_X_mirrored 12 = .ok (.invokestatic 154, 3) := by decide +kernel
theorem d_X_mirrored_15 : decode b_X_mirrored 15 = .ok (.lreturn, 1) := by decide +kernel

abbrev b_X_apart : ByteArray := prog_1_method_20_code
def y_X_apart : MethodName := ⟨"RegistryLog", "apart", "(I)I"⟩
theorem d_X_apart_0 : decode b_X_apart 0 = .ok (.aload_n 0, 1) := by decide +kernel
theorem d_X_apart_1 : decode b_X_apart 1 = .ok (.iload_n 1, 1) := by decide +kernel
theorem d_X_apart_2 : decode b_X_apart 2 = .ok (.invokevirtual 202, 3) := by decide +kernel
theorem d_X_apart_5 : decode b_X_apart 5 = .ok (.astore_n 2, 1) := by decide +kernel
theorem d_X_apart_6 : decode b_X_apart 6 = .ok (.iconst 0, 1) := by decide +kernel
theorem d_X_apart_7 : decode b_X_apart 7 = .ok (.istore_n 3, 1) := by decide +kernel
theorem d_X_apart_8 : decode b_X_apart 8 = .ok (.iload_n 3, 1) := by decide +kernel
theorem d_X_apart_9 : decode b_X_apart 9 = .ok (.aload_n 2, 1) := by decide +kernel
theorem d_X_apart_10 : decode b_X_apart 10 = .ok (.invokevirtual 80, 3) := by decide +kernel
theorem d_X_apart_13 : decode b_X_apart 13 = .ok (.if_icmp .ge 36, 3) := by decide +kernel
theorem d_X_apart_16 : decode b_X_apart 16 = .ok (.aload_n 2, 1) := by decide +kernel
theorem d_X_apart_17 : decode b_X_apart 17 = .ok (.iload_n 3, 1) := by decide +kernel
theorem d_X_apart_18 : decode b_X_apart 18 = .ok (.invokevirtual 133, 3) := by decide +kernel
theorem d_X_apart_21 : decode b_X_apart 21 = .ok (.getfield 150, 3) := by decide +kernel
theorem d_X_apart_24 : decode b_X_apart 24 = .ok (.aload_n 0, 1) := by decide +kernel
theorem d_X_apart_25 : decode b_X_apart 25 = .ok (.getfield 19, 3) := by decide +kernel
theorem d_X_apart_28 : decode b_X_apart 28 = .ok (.iload_n 3, 1) := by decide +kernel
theorem d_X_apart_29 : decode b_X_apart 29 = .ok (.invokevirtual 133, 3) := by decide +kernel
theorem d_X_apart_32 : decode b_X_apart 32 = .ok (.getfield 150, 3) := by decide +kernel
theorem d_X_apart_35 : decode b_X_apart 35 = .ok (.lcmp, 1) := by decide +kernel
theorem d_X_apart_36 : decode b_X_apart 36 = .ok (.ifCond .eq 7, 3) := by decide +kernel
theorem d_X_apart_39 : decode b_X_apart 39 = .ok (.iload_n 3, 1) := by decide +kernel
theorem d_X_apart_40 : decode b_X_apart 40 = .ok (.iconst 1, 1) := by decide +kernel
theorem d_X_apart_41 : decode b_X_apart 41 = .ok (.iadd, 1) := by decide +kernel
theorem d_X_apart_42 : decode b_X_apart 42 = .ok (.ireturn, 1) := by decide +kernel
theorem d_X_apart_43 : decode b_X_apart 43 = .ok (.iinc 3 1, 3) := by decide +kernel
theorem d_X_apart_46 : decode b_X_apart 46 = .ok (.goto (-38), 3) := by decide +kernel
theorem d_X_apart_49 : decode b_X_apart 49 = .ok (.iconst (-1), 1) := by decide +kernel
theorem d_X_apart_50 : decode b_X_apart 50 = .ok (.ireturn, 1) := by decide +kernel

abbrev b_X_founder : ByteArray := prog_1_method_21_code
def y_X_founder : MethodName := ⟨"RegistryLog", "founder", "(I)I"⟩
theorem d_X_founder_0 : decode b_X_founder 0 = .ok (.aload_n 0, 1) := by decide +kernel
theorem d_X_founder_1 : decode b_X_founder 1 = .ok (.iload_n 1, 1) := by decide +kernel
theorem d_X_founder_2 : decode b_X_founder 2 = .ok (.invokevirtual 221, 3) := by decide +kernel
theorem d_X_founder_5 : decode b_X_founder 5 = .ok (.astore_n 2, 1) := by decide +kernel
theorem d_X_founder_6 : decode b_X_founder 6 = .ok (.aload_n 2, 1) := by decide +kernel
theorem d_X_founder_7 : decode b_X_founder 7 = .ok (.aload_n 2, 1) := by decide +kernel
theorem d_X_founder_8 : decode b_X_founder 8 = .ok (.aload_n 0, 1) := by decide +kernel
theorem d_X_founder_9 : decode b_X_founder 9 = .ok (.invokevirtual 48, 3) := by decide +kernel
theorem d_X_founder_12 : decode b_X_founder 12 = .ok (.invokevirtual 69, 3) := by decide +kernel
theorem d_X_founder_15 : decode b_X_founder 15 = .ok (.invokevirtual 107, 3) := by decide +kernel
theorem d_X_founder_18 : decode b_X_founder 18 = .ok (.ireturn, 1) := by decide +kernel

abbrev b_X_has : ByteArray := prog_1_method_22_code
def y_X_has : MethodName := ⟨"RegistryLog", "has", "(II)Z"⟩
theorem d_X_has_0 : decode b_X_has 0 = .ok (.aload_n 0, 1) := by decide +kernel
theorem d_X_has_1 : decode b_X_has 1 = .ok (.iload_n 1, 1) := by decide +kernel
theorem d_X_has_2 : decode b_X_has 2 = .ok (.invokevirtual 221, 3) := by decide +kernel
theorem d_X_has_5 : decode b_X_has 5 = .ok (.astore_n 3, 1) := by decide +kernel
theorem d_X_has_6 : decode b_X_has 6 = .ok (.aload_n 3, 1) := by decide +kernel
theorem d_X_has_7 : decode b_X_has 7 = .ok (.aload_n 0, 1) := by decide +kernel
theorem d_X_has_8 : decode b_X_has 8 = .ok (.invokevirtual 48, 3) := by decide +kernel
theorem d_X_has_11 : decode b_X_has 11 = .ok (.invokevirtual 69, 3) := by decide +kernel
theorem d_X_has_14 : decode b_X_has 14 = .ok (.istore 4, 2) := by decide +kernel
theorem d_X_has_16 : decode b_X_has 16 = .ok (.iload_n 2, 1) := by decide +kernel
theorem d_X_has_17 : decode b_X_has 17 = .ok (.invokestatic 58, 3) := by decide +kernel
theorem d_X_has_20 : decode b_X_has 20 = .ok (.ifCond .eq 17, 3) := by decide +kernel
theorem d_X_has_23 : decode b_X_has 23 = .ok (.aload_n 3, 1) := by decide +kernel
theorem d_X_has_24 : decode b_X_has 24 = .ok (.iload 4, 2) := by decide +kernel
theorem d_X_has_26 : decode b_X_has 26 = .ok (.iload_n 2, 1) := by decide +kernel
theorem d_X_has_27 : decode b_X_has 27 = .ok (.invokevirtual 83, 3) := by decide +kernel
theorem d_X_has_30 : decode b_X_has 30 = .ok (.ifCond .eq 7, 3) := by decide +kernel
theorem d_X_has_33 : decode b_X_has 33 = .ok (.iconst 1, 1) := by decide +kernel
theorem d_X_has_34 : decode b_X_has 34 = .ok (.goto 4, 3) := by decide +kernel
theorem d_X_has_37 : decode b_X_has 37 = .ok (.iconst 0, 1) := by decide +kernel
theorem d_X_has_38 : decode b_X_has 38 = .ok (.ireturn, 1) := by decide +kernel

abbrev b_X_version : ByteArray := prog_1_method_23_code
def y_X_version : MethodName := ⟨"RegistryLog", "version", "(II)I"⟩
theorem d_X_version_0 : decode b_X_version 0 = .ok (.aload_n 0, 1) := by decide +kernel
theorem d_X_version_1 : decode b_X_version 1 = .ok (.iload_n 1, 1) := by decide +kernel
theorem d_X_version_2 : decode b_X_version 2 = .ok (.invokevirtual 221, 3) := by decide +kernel
theorem d_X_version_5 : decode b_X_version 5 = .ok (.astore_n 3, 1) := by decide +kernel
theorem d_X_version_6 : decode b_X_version 6 = .ok (.aload_n 3, 1) := by decide +kernel
theorem d_X_version_7 : decode b_X_version 7 = .ok (.aload_n 0, 1) := by decide +kernel
theorem d_X_version_8 : decode b_X_version 8 = .ok (.invokevirtual 48, 3) := by decide +kernel
theorem d_X_version_11 : decode b_X_version 11 = .ok (.invokevirtual 69, 3) := by decide +kernel
theorem d_X_version_14 : decode b_X_version 14 = .ok (.istore 4, 2) := by decide +kernel
theorem d_X_version_16 : decode b_X_version 16 = .ok (.aload_n 3, 1) := by decide +kernel
theorem d_X_version_17 : decode b_X_version 17 = .ok (.iload 4, 2) := by decide +kernel
theorem d_X_version_19 : decode b_X_version 19 = .ok (.iload_n 2, 1) := by decide +kernel
theorem d_X_version_20 : decode b_X_version 20 = .ok (.invokevirtual 87, 3) := by decide +kernel
theorem d_X_version_23 : decode b_X_version 23 = .ok (.iconst (-1), 1) := by decide +kernel
theorem d_X_version_24 : decode b_X_version 24 = .ok (.if_icmp .ne 5, 3) := by decide +kernel
theorem d_X_version_27 : decode b_X_version 27 = .ok (.iconst 0, 1) := by decide +kernel
theorem d_X_version_28 : decode b_X_version 28 = .ok (.ireturn, 1) := by decide +kernel
theorem d_X_version_29 : decode b_X_version 29 = .ok (.aload_n 3, 1) := by decide +kernel
theorem d_X_version_30 : decode b_X_version 30 = .ok (.iload 4, 2) := by decide +kernel
theorem d_X_version_32 : decode b_X_version 32 = .ok (.iload_n 2, 1) := by decide +kernel
theorem d_X_version_33 : decode b_X_version 33 = .ok (.invokevirtual 100, 3) := by decide +kernel
theorem d_X_version_36 : decode b_X_version 36 = .ok (.ifCond .eq 7, 3) := by decide +kernel
theorem d_X_version_39 : decode b_X_version 39 = .ok (.iconst 2, 1) := by decide +kernel
theorem d_X_version_40 : decode b_X_version 40 = .ok (.goto 4, 3) := by decide +kernel
theorem d_X_version_43 : decode b_X_version 43 = .ok (.iconst 1, 1) := by decide +kernel
theorem d_X_version_44 : decode b_X_version 44 = .ok (.ireturn, 1) := by decide +kernel

abbrev b_X_sum : ByteArray := prog_1_method_24_code
def y_X_sum : MethodName := ⟨"RegistryLog", "sum", "(II)I"⟩
theorem d_X_sum_0 : decode b_X_sum 0 = .ok (.aload_n 0, 1) := by decide +kernel
theorem d_X_sum_1 : decode b_X_sum 1 = .ok (.iload_n 1, 1) := by decide +kernel
theorem d_X_sum_2 : decode b_X_sum 2 = .ok (.invokevirtual 221, 3) := by decide +kernel
theorem d_X_sum_5 : decode b_X_sum 5 = .ok (.astore_n 3, 1) := by decide +kernel
theorem d_X_sum_6 : decode b_X_sum 6 = .ok (.aload_n 3, 1) := by decide +kernel
theorem d_X_sum_7 : decode b_X_sum 7 = .ok (.aload_n 3, 1) := by decide +kernel
theorem d_X_sum_8 : decode b_X_sum 8 = .ok (.aload_n 0, 1) := by decide +kernel
theorem d_X_sum_9 : decode b_X_sum 9 = .ok (.invokevirtual 48, 3) := by decide +kernel
theorem d_X_sum_12 : decode b_X_sum 12 = .ok (.invokevirtual 69, 3) := by decide +kernel
theorem d_X_sum_15 : decode b_X_sum 15 = .ok (.iload_n 2, 1) := by decide +kernel
theorem d_X_sum_16 : decode b_X_sum 16 = .ok (.invokevirtual 87, 3) := by decide +kernel
theorem d_X_sum_19 : decode b_X_sum 19 = .ok (.istore 4, 2) := by decide +kernel
theorem d_X_sum_21 : decode b_X_sum 21 = .ok (.iload 4, 2) := by decide +kernel
theorem d_X_sum_23 : decode b_X_sum 23 = .ok (.iconst (-1), 1) := by decide +kernel
theorem d_X_sum_24 : decode b_X_sum 24 = .ok (.if_icmp .ne 7, 3) := by decide +kernel
theorem d_X_sum_27 : decode b_X_sum 27 = .ok (.iconst 0, 1) := by decide +kernel
theorem d_X_sum_28 : decode b_X_sum 28 = .ok (.goto 12, 3) := by decide +kernel
theorem d_X_sum_31 : decode b_X_sum 31 = .ok (.aload_n 3, 1) := by decide +kernel
theorem d_X_sum_32 : decode b_X_sum 32 = .ok (.iload 4, 2) := by decide +kernel
theorem d_X_sum_34 : decode b_X_sum 34 = .ok (.invokevirtual 133, 3) := by decide +kernel
theorem d_X_sum_37 : decode b_X_sum 37 = .ok (.getfield 147, 3) := by decide +kernel
theorem d_X_sum_40 : decode b_X_sum 40 = .ok (.ireturn, 1) := by decide +kernel

abbrev b_X_takeText : ByteArray := prog_1_method_25_code
def y_X_takeText : MethodName := ⟨"RegistryLog", "takeText", "()Ljava/lang/String;"⟩
theorem d_X_takeText_0 : decode b_X_takeText 0 = .ok (.aload_n 0, 1) := by decide +kernel
theorem d_X_takeText_1 : decode b_X_takeText 1 = .ok (.getfield 10, 3) := by decide +kernel
theorem d_X_takeText_4 : decode b_X_takeText 4 = .ok (.invokevirtual 224, 3) := by decide +kernel
theorem d_X_takeText_7 : decode b_X_takeText 7 = .ok (.astore_n 1, 1) := by decide +kernel
theorem d_X_takeText_8 : decode b_X_takeText 8 = .ok (.aload_n 0, 1) := by decide +kernel
theorem d_X_takeText_9 : decode b_X_takeText 9 = .ok (.getfield 10, 3) := by decide +kernel
theorem d_X_takeText_12 : decode b_X_takeText 12 = .ok (.iconst 0, 1) := by decide +kernel
theorem d_X_takeText_13 : decode b_X_takeText 13 = .ok (.invokevirtual 227, 3) := by decide +kernel
theorem d_X_takeText_16 : decode b_X_takeText 16 = .ok (.aload_n 1, 1) := by decide +kernel
theorem d_X_takeText_17 : decode b_X_takeText 17 = .ok (.areturn, 1) := by decide +kernel

abbrev b_X_takeName : ByteArray := prog_1_method_26_code
def y_X_takeName : MethodName := ⟨"RegistryLog", "takeName", "()LRegistryLog$Name;"⟩
theorem d_X_takeName_0 : decode b_X_takeName 0 = .ok (.new 53, 3) := by decide +kernel
theorem d_X_takeName_3 : decode b_X_takeName 3 = .ok (.dup, 1) := by decide +kernel
theorem d_X_takeName_4 : decode b_X_takeName 4 = .ok (.aload_n 0, 1) := by decide +kernel
theorem d_X_takeName_5 : decode b_X_takeName 5 = .ok (.invokevirtual 111, 3) := by decide +kernel
theorem d_X_takeName_8 : decode b_X_takeName 8 = .ok (.invokespecial 131, 3) := by decide +kernel
theorem d_X_takeName_11 : decode b_X_takeName 11 = .ok (.areturn, 1) := by decide +kernel

abbrev b_X_write : ByteArray := prog_1_method_27_code
def y_X_write : MethodName := ⟨"RegistryLog", "write", "(LRegistryLog$Row;)I"⟩
theorem d_X_write_0 : decode b_X_write 0 = .ok (.aload_n 0, 1) := by decide +kernel
theorem d_X_write_1 : decode b_X_write 1 = .ok (.getfield 19, 3) := by decide +kernel
theorem d_X_write_4 : decode b_X_write 4 = .ok (.invokevirtual 80, 3) := by decide +kernel
theorem d_X_write_7 : decode b_X_write 7 = .ok (.istore_n 2, 1) := by decide +kernel
theorem d_X_write_8 : decode b_X_write 8 = .ok (.iload_n 2, 1) := by decide +kernel
theorem d_X_write_9 : decode b_X_write 9 = .ok (.bipush 120, 2) := by decide +kernel
theorem d_X_write_11 : decode b_X_write 11 = .ok (.if_icmp .ge 7, 3) := by decide +kernel
theorem d_X_write_14 : decode b_X_write 14 = .ok (.iconst 1, 1) := by decide +kernel
theorem d_X_write_15 : decode b_X_write 15 = .ok (.goto 4, 3) := by decide +kernel
theorem d_X_write_18 : decode b_X_write 18 = .ok (.iconst 0, 1) := by decide +kernel
theorem d_X_write_19 : decode b_X_write 19 = .ok (.invokestatic 77, 3) := by decide +kernel
theorem d_X_write_22 : decode b_X_write 22 = .ok (.aload_n 0, 1) := by decide +kernel
theorem d_X_write_23 : decode b_X_write 23 = .ok (.getfield 19, 3) := by decide +kernel
theorem d_X_write_26 : decode b_X_write 26 = .ok (.aload_n 1, 1) := by decide +kernel
theorem d_X_write_27 : decode b_X_write 27 = .ok (.invokevirtual 211, 3) := by decide +kernel
theorem d_X_write_30 : decode b_X_write 30 = .ok (.iload_n 2, 1) := by decide +kernel
theorem d_X_write_31 : decode b_X_write 31 = .ok (.ireturn, 1) := by decide +kernel

abbrev b_X_mirrorOf : ByteArray := prog_1_method_28_code
def y_X_mirrorOf : MethodName := ⟨"RegistryLog", "mirrorOf", "(I)LRegistryLog$Ledger;"⟩
theorem d_X_mirrorOf_0 : decode b_X_mirrorOf 0 = .ok (.iload_n 1, 1) := by decide +kernel
theorem d_X_mirrorOf_1 : decode b_X_mirrorOf 1 = .ok (.invokestatic 199, 3) := by decide +kernel
theorem d_X_mirrorOf_4 : decode b_X_mirrorOf 4 = .ok (.ifCond .eq 12, 3) := by decide +kernel
theorem d_X_mirrorOf_7 : decode b_X_mirrorOf 7 = .ok (.aload_n 0, 1) := by decide +kernel
theorem d_X_mirrorOf_8 : decode b_X_mirrorOf 8 = .ok (.getfield 23, 3) := by decide +kernel
theorem d_X_mirrorOf_11 : decode b_X_mirrorOf 11 = .ok (.iload_n 1, 1) := by decide +kernel
theorem d_X_mirrorOf_12 : decode b_X_mirrorOf 12 = .ok (.aaload, 1) := by decide +kernel
theorem d_X_mirrorOf_13 : decode b_X_mirrorOf 13 = .ok (.goto 7, 3) := by decide +kernel
theorem d_X_mirrorOf_16 : decode b_X_mirrorOf 16 = .ok (.aload_n 0, 1) := by decide +kernel
theorem d_X_mirrorOf_17 : decode b_X_mirrorOf 17 = .ok (.getfield 27, 3) := by decide +kernel
theorem d_X_mirrorOf_20 : decode b_X_mirrorOf 20 = .ok (.areturn, 1) := by decide +kernel

abbrev b_X_ledgerOf : ByteArray := prog_1_method_29_code
def y_X_ledgerOf : MethodName := ⟨"RegistryLog", "ledgerOf", "(I)LRegistryLog$Ledger;"⟩
theorem d_X_ledgerOf_0 : decode b_X_ledgerOf 0 = .ok (.iload_n 1, 1) := by decide +kernel
theorem d_X_ledgerOf_1 : decode b_X_ledgerOf 1 = .ok (.iconst (-1), 1) := by decide +kernel
theorem d_X_ledgerOf_2 : decode b_X_ledgerOf 2 = .ok (.if_icmp .ne 10, 3) := by decide +kernel
theorem d_X_ledgerOf_5 : decode b_X_ledgerOf 5 = .ok (.aload_n 0, 1) := by decide +kernel
theorem d_X_ledgerOf_6 : decode b_X_ledgerOf 6 = .ok (.getfield 19, 3) := by decide +kernel
theorem d_X_ledgerOf_9 : decode b_X_ledgerOf 9 = .ok (.goto 8, 3) := by decide +kernel
theorem d_X_ledgerOf_12 : decode b_X_ledgerOf 12 = .ok (.aload_n 0, 1) := by decide +kernel
theorem d_X_ledgerOf_13 : decode b_X_ledgerOf 13 = .ok (.iload_n 1, 1) := by decide +kernel
theorem d_X_ledgerOf_14 : decode b_X_ledgerOf 14 = .ok (.invokevirtual 202, 3) := by decide +kernel
theorem d_X_ledgerOf_17 : decode b_X_ledgerOf 17 = .ok (.areturn, 1) := by decide +kernel

abbrev b_X_demandArguments : ByteArray := prog_1_method_30_code
def y_X_demandArguments : MethodName := ⟨"RegistryLog", "demandArguments", "(Z)V"⟩
theorem d_X_demandArguments_0 : decode b_X_demandArguments 0 = .ok (.iload_n 0, 1) := by decide +kernel
theorem d_X_demandArguments_1 : decode b_X_demandArguments 1 = .ok (.ifCond .ne 13, 3) := by decide +kernel
theorem d_X_demandArguments_4 : decode b_X_demandArguments 4 = .ok (.new 120, 3) := by decide +kernel
theorem d_X_demandArguments_7 : decode b_X_demandArguments 7 = .ok (.dup, 1) := by decide +kernel
theorem d_X_demandArguments_8 : decode b_X_demandArguments 8 = .ok (.ldc 231, 2) := by decide +kernel
theorem d_X_demandArguments_10 : decode b_X_demandArguments 10 = .ok (.invokespecial 124, 3) := by decide +kernel
theorem d_X_demandArguments_13 : decode b_X_demandArguments 13 = .ok (.athrow, 1) := by decide +kernel
theorem d_X_demandArguments_14 : decode b_X_demandArguments 14 = .ok (.return_, 1) := by decide +kernel

abbrev b_X_demandState : ByteArray := prog_1_method_31_code
def y_X_demandState : MethodName := ⟨"RegistryLog", "demandState", "(Z)V"⟩
theorem d_X_demandState_0 : decode b_X_demandState 0 = .ok (.iload_n 0, 1) := by decide +kernel
theorem d_X_demandState_1 : decode b_X_demandState 1 = .ok (.ifCond .ne 13, 3) := by decide +kernel
theorem d_X_demandState_4 : decode b_X_demandState 4 = .ok (.new 233, 3) := by decide +kernel
theorem d_X_demandState_7 : decode b_X_demandState 7 = .ok (.dup, 1) := by decide +kernel
theorem d_X_demandState_8 : decode b_X_demandState 8 = .ok (.ldc 235, 2) := by decide +kernel
theorem d_X_demandState_10 : decode b_X_demandState 10 = .ok (.invokespecial 237, 3) := by decide +kernel
theorem d_X_demandState_13 : decode b_X_demandState 13 = .ok (.athrow, 1) := by decide +kernel
theorem d_X_demandState_14 : decode b_X_demandState 14 = .ok (.return_, 1) := by decide +kernel

abbrev b_X_isPerson : ByteArray := prog_1_method_32_code
def y_X_isPerson : MethodName := ⟨"RegistryLog", "isPerson", "(I)Z"⟩
theorem d_X_isPerson_0 : decode b_X_isPerson 0 = .ok (.iload_n 0, 1) := by decide +kernel
theorem d_X_isPerson_1 : decode b_X_isPerson 1 = .ok (.ifCond .lt 13, 3) := by decide +kernel
theorem d_X_isPerson_4 : decode b_X_isPerson 4 = .ok (.iload_n 0, 1) := by decide +kernel
theorem d_X_isPerson_5 : decode b_X_isPerson 5 = .ok (.bipush 8, 2) := by decide +kernel
theorem d_X_isPerson_7 : decode b_X_isPerson 7 = .ok (.if_icmp .ge 7, 3) := by decide +kernel
theorem d_X_isPerson_10 : decode b_X_isPerson 10 = .ok (.iconst 1, 1) := by decide +kernel
theorem d_X_isPerson_11 : decode b_X_isPerson 11 = .ok (.goto 4, 3) := by decide +kernel
theorem d_X_isPerson_14 : decode b_X_isPerson 14 = .ok (.iconst 0, 1) := by decide +kernel
theorem d_X_isPerson_15 : decode b_X_isPerson 15 = .ok (.ireturn, 1) := by decide +kernel

abbrev b_X_isVersion : ByteArray := prog_1_method_33_code
def y_X_isVersion : MethodName := ⟨"RegistryLog", "isVersion", "(I)Z"⟩
theorem d_X_isVersion_0 : decode b_X_isVersion 0 = .ok (.iload_n 0, 1) := by decide +kernel
theorem d_X_isVersion_1 : decode b_X_isVersion 1 = .ok (.ifCond .lt 14, 3) := by decide +kernel
theorem d_X_isVersion_4 : decode b_X_isVersion 4 = .ok (.iload_n 0, 1) := by decide +kernel
theorem d_X_isVersion_5 : decode b_X_isVersion 5 = .ok (.sipush 1000, 3) := by decide +kernel
theorem d_X_isVersion_8 : decode b_X_isVersion 8 = .ok (.if_icmp .ge 7, 3) := by decide +kernel
theorem d_X_isVersion_11 : decode b_X_isVersion 11 = .ok (.iconst 1, 1) := by decide +kernel
theorem d_X_isVersion_12 : decode b_X_isVersion 12 = .ok (.goto 4, 3) := by decide +kernel
theorem d_X_isVersion_15 : decode b_X_isVersion 15 = .ok (.iconst 0, 1) := by decide +kernel
theorem d_X_isVersion_16 : decode b_X_isVersion 16 = .ok (.ireturn, 1) := by decide +kernel

abbrev b_X_isMirror : ByteArray := prog_1_method_34_code
def y_X_isMirror : MethodName := ⟨"RegistryLog", "isMirror", "(I)Z"⟩
theorem d_X_isMirror_0 : decode b_X_isMirror 0 = .ok (.iload_n 0, 1) := by decide +kernel
theorem d_X_isMirror_1 : decode b_X_isMirror 1 = .ok (.ifCond .lt 12, 3) := by decide +kernel
theorem d_X_isMirror_4 : decode b_X_isMirror 4 = .ok (.iload_n 0, 1) := by decide +kernel
theorem d_X_isMirror_5 : decode b_X_isMirror 5 = .ok (.iconst 4, 1) := by decide +kernel
theorem d_X_isMirror_6 : decode b_X_isMirror 6 = .ok (.if_icmp .ge 7, 3) := by decide +kernel
theorem d_X_isMirror_9 : decode b_X_isMirror 9 = .ok (.iconst 1, 1) := by decide +kernel
theorem d_X_isMirror_10 : decode b_X_isMirror 10 = .ok (.goto 4, 3) := by decide +kernel
theorem d_X_isMirror_13 : decode b_X_isMirror 13 = .ok (.iconst 0, 1) := by decide +kernel
theorem d_X_isMirror_14 : decode b_X_isMirror 14 = .ok (.ireturn, 1) := by decide +kernel

abbrev b_X_asNumber : ByteArray := prog_1_method_35_code
def y_X_asNumber : MethodName := ⟨"RegistryLog", "asNumber", "(Z)I"⟩
theorem d_X_asNumber_0 : decode b_X_asNumber 0 = .ok (.iload_n 0, 1) := by decide +kernel
theorem d_X_asNumber_1 : decode b_X_asNumber 1 = .ok (.ifCond .eq 7, 3) := by decide +kernel
theorem d_X_asNumber_4 : decode b_X_asNumber 4 = .ok (.iconst 1, 1) := by decide +kernel
theorem d_X_asNumber_5 : decode b_X_asNumber 5 = .ok (.goto 4, 3) := by decide +kernel
theorem d_X_asNumber_8 : decode b_X_asNumber 8 = .ok (.iconst 0, 1) := by decide +kernel
theorem d_X_asNumber_9 : decode b_X_asNumber 9 = .ok (.ireturn, 1) := by decide +kernel
end
section
/-! FACTS OF CELLS: an object with its fields, an array, a String, its bytes; the rows that read them -/
abbrev ob (g : gG) (H : Heap) (a ci : Nat) (fs : List Value) : Prop := va_P g.1 cls_ [(a, .inr (ci, fs))] H
abbrev ar (g : gG) (t : Nat) (H : Heap) (a : Nat) (x : vp_A) : Prop := va_P g.1 cls_ [(a, .inl (g.2.1 t, x))] H
/-- a String: its bytes' address, coder 0 (a constant is one too) -/
def sO (g : gG) (H : Heap) (a v : Nat) : Prop := ∃ cell : Cell, H[a]? = some cell ∧ cell.vm.isStatics = false ∧ cell.vm ≠ .unknown ∧ cell.cls = g.1.1 6 ∧ cell.slots[g.1.2 6 0]? = some (.ref v) ∧ cell.slots[g.1.2 6 1]? = some (.int 0)
def bA (g : gG) (H : Heap) (v n : Nat) (f : Nat → Int32) : Prop := ∃ cell : Cell, H[v]? = some cell ∧ cell.vm.isStatics = false ∧ cell.vm ≠ .unknown ∧ (cell.cls = g.2.1 0 ∨ cell.cls = g.2.1 6) ∧ cell.slots.size = n ∧ ∀ j, j < n → cell.slots[j]? = some (.int (f j))
abbrev ch (t : List Nat) : Nat → Int32 := fun j => nI (t.getD j 0)
/-- a String with the text t -/
def isS (g : gG) (H : Heap) (a : Nat) (t : List Nat) : Prop := ∃ v, sO g H a v ∧ bA g H v t.length (ch t) ∧ (∀ c ∈ t, c < 128) ∧ t.length ≤ 100
theorem bA.arr {g : gG} {H : Heap} {v n : Nat} {f : Nat → Int32} {U : State} (h : bA g H v n f) (hK : bK g U) : ∃ cell : Cell, H[v]? = some cell ∧ cell.vm ≠ .unknown ∧ U.isArrayOf cell .byte ∧ cell.slots.size = n ∧ ∀ j, j < n → cell.slots[j]? = some (.int (f j)) := by
  obtain ⟨cell, h1, h2, h3, h4, h5, h6⟩ := h
  obtain ⟨kA, comp, k1, k2⟩ := hK _ h4
  exact ⟨cell, h1, h3, ⟨fun k e => (by rw [e] at h2; cases h2), kA, k1, comp, k2⟩, h5, h6⟩
section F0s
variable {p : Program} {l : Launch} {e : Env} {R : Room} {s : State} {m : MethodId} {args : Array Value} {below : List Frame} {meth : Method} {c : Code} {H : Heap} {locs : List Loc} {cells slots : Nat} {Q : State → Prop}
variable {cc : ByteArray} {pc : Nat} {ls : Array Slot} {rest : List Value} {g : gG} {a : Nat}
def sV (v : Nat) : Nat → Value
  | 0 => .ref v
  | _ => .int 0
theorem s_get (hexec : p.tables.exec = Jvm.exec) (hb : c.code = cc) {own : String} {index v : Nat} (hts : ∀ w ∈ gT, w.before args s = true) (hown : s.vm.findClass own = some m.cls) (hK : kK g s) (f : sO g H a v) (k : Nat) (hk : k < 2) (hlink : (Cond.fieldLink own index "java/lang/String" (F_S k).2.1 (F_S k).2.2.1).before args s = true) (hdg : decode cc pc = .ok (.getfield index, 3))
    (kk : W p l e R s m args below meth c H locs cells slots Q (F0 m (pc + 3) ls (sV v k :: rest))) : W p l e R s m args below meth c H locs cells slots Q (F0 m pc ls (.ref a :: rest)) := by
  obtain ⟨cell, h1, h2, h3, h4, h5, h6⟩ := f
  obtain ⟨hS, hfc, kC, hkC, hkind⟩ := hK.1.1 6 _ rfl
  have hk4 : k < 4 := by omega
  obtain ⟨cf, kf, fi, f, hi, hsl⟩ := hS k hk4
  have hr : (F_S k).1 = "java/lang/String" := by rcases (show k = 0 ∨ k = 1 by omega) with rfl | rfl <;> rfl
  refine W.getf hexec hb hown hlink (by rw [← hr]; exact hi) (u_facts hfc hkC (u_lays hts i_S hk4) hi).1 h1 h3 (v := sV v k) ?_ rfl rfl hdg kk
  rw [hsl]
  rcases (show k = 0 ∨ k = 1 by omega) with rfl | rfl
  · exact h5
  · exact h6
theorem b_len (hexec : p.tables.exec = Jvm.exec) (hb : c.code = cc) {n : Nat} {f : Nat → Int32} (hK : kK g s) (h : bA g H a n f) (hdg : decode cc pc = .ok (.arraylength, 1))
    (kk : W p l e R s m args below meth c H locs cells slots Q (F0 m (pc + 1) ls (.int (nI n) :: rest))) : W p l e R s m args below meth c H locs cells slots Q (F0 m pc ls (.ref a :: rest)) := by
  obtain ⟨cell, h1, h2, h3, h4, h5⟩ := h.arr hK.2.2.2.1
  exact W.alen (n := nI n) hexec hb h1 h3 (by rw [h4]; rfl) rfl rfl hdg kk
theorem b_ld (hexec : p.tables.exec = Jvm.exec) (hb : c.code = cc) {n : Nat} {f : Nat → Int32} (hK : kK g s) (h : bA g H a n f) {i : Int32} (hin : vp_in i n) (hdg : decode cc pc = .ok (.baload, 1))
    (kk : W p l e R s m args below meth c H locs cells slots Q (F0 m (pc + 1) ls (.int (f i.toNatClampNeg) :: rest))) : W p l e R s m args below meth c H locs cells slots Q (F0 m pc ls (.int i :: .ref a :: rest)) := by
  obtain ⟨cell, h1, h2, h3, h4, h5⟩ := h.arr hK.2.2.2.1
  exact W.bald hexec hb h1 h3 h2 (by rw [h4]; exact hin) (h5 _ (Nat.not_le.mp fun q => hin (Or.inr q))) rfl rfl hdg kk
/-- a cell's own class, for a call -/
theorem ob_recv {ci : Nat} {fs : List Value} {q : vw_C} (hK : kK g s) (h : ob g H a ci fs) (hc : cls_[ci]? = some q) : ∃ cell : Cell, H[a]? = some cell ∧ cell.vm.isStatics = false ∧ s.vm.findClass q.1 = some cell.cls := va_recv hK.1 h hc (q0 := 0) rfl
theorem s_recv {v : Nat} (hK : kK g s) (h : sO g H a v) : ∃ cell : Cell, H[a]? = some cell ∧ cell.vm.isStatics = false ∧ s.vm.findClass "java/lang/String" = some cell.cls := by
  obtain ⟨cell, h1, h2, h3, h4, h5, h6⟩ := h
  exact ⟨cell, h1, h2, by rw [h4]; exact (hK.1.1 6 _ rfl).2.1⟩
end F0s
theorem ch_c : ∀ c, c < 128 → (((nI c) &&& 255).toUInt32 % 65536).toInt32 = nI c ∧ narrow .char (.int (nI c)) = .int (nI c) := by decide +kernel
end
section
abbrev b_S_coder : ByteArray := prog_19_method_152_code
def y_S_coder : MethodName := ⟨"java/lang/String", "coder", "()B"⟩
theorem d_S_coder_0 : decode b_S_coder 0 = .ok (.getstatic 38, 3) := by decide +kernel
theorem d_S_coder_3 : decode b_S_coder 3 = .ok (.ifCond .eq 10, 3) := by decide +kernel
theorem d_S_coder_6 : decode b_S_coder 6 = .ok (.aload_n 0, 1) := by decide +kernel
theorem d_S_coder_7 : decode b_S_coder 7 = .ok (.getfield 15, 3) := by decide +kernel
theorem d_S_coder_10 : decode b_S_coder 10 = .ok (.goto 4, 3) := by decide +kernel
theorem d_S_coder_13 : decode b_S_coder 13 = .ok (.iconst 1, 1) := by decide +kernel
theorem d_S_coder_14 : decode b_S_coder 14 = .ok (.ireturn, 1) := by decide +kernel

abbrev b_S_isLatin1 : ByteArray := prog_19_method_154_code
def y_S_isLatin1 : MethodName := ⟨"java/lang/String", "isLatin1", "()Z"⟩
theorem d_S_isLatin1_0 : decode b_S_isLatin1 0 = .ok (.getstatic 38, 3) := by decide +kernel
theorem d_S_isLatin1_3 : decode b_S_isLatin1 3 = .ok (.ifCond .eq 14, 3) := by decide +kernel
theorem d_S_isLatin1_6 : decode b_S_isLatin1 6 = .ok (.aload_n 0, 1) := by decide +kernel
theorem d_S_isLatin1_7 : decode b_S_isLatin1 7 = .ok (.getfield 15, 3) := by decide +kernel
theorem d_S_isLatin1_10 : decode b_S_isLatin1 10 = .ok (.ifCond .ne 7, 3) := by decide +kernel
theorem d_S_isLatin1_13 : decode b_S_isLatin1 13 = .ok (.iconst 1, 1) := by decide +kernel
theorem d_S_isLatin1_14 : decode b_S_isLatin1 14 = .ok (.goto 4, 3) := by decide +kernel
theorem d_S_isLatin1_17 : decode b_S_isLatin1 17 = .ok (.iconst 0, 1) := by decide +kernel
theorem d_S_isLatin1_18 : decode b_S_isLatin1 18 = .ok (.ireturn, 1) := by decide +kernel

abbrev b_S_length : ByteArray := prog_19_method_54_code
def y_S_length : MethodName := ⟨"java/lang/String", "length", "()I"⟩
theorem d_S_length_0 : decode b_S_length 0 = .ok (.aload_n 0, 1) := by decide +kernel
theorem d_S_length_1 : decode b_S_length 1 = .ok (.getfield 9, 3) := by decide +kernel
theorem d_S_length_4 : decode b_S_length 4 = .ok (.arraylength, 1) := by decide +kernel
theorem d_S_length_5 : decode b_S_length 5 = .ok (.aload_n 0, 1) := by decide +kernel
theorem d_S_length_6 : decode b_S_length 6 = .ok (.invokevirtual 335, 3) := by decide +kernel
theorem d_S_length_9 : decode b_S_length 9 = .ok (.ishr, 1) := by decide +kernel
theorem d_S_length_10 : decode b_S_length 10 = .ok (.ireturn, 1) := by decide +kernel

abbrev b_S_charAt : ByteArray := prog_19_method_56_code
def y_S_charAt : MethodName := ⟨"java/lang/String", "charAt", "(I)C"⟩
theorem d_S_charAt_0 : decode b_S_charAt 0 = .ok (.aload_n 0, 1) := by decide +kernel
theorem d_S_charAt_1 : decode b_S_charAt 1 = .ok (.invokevirtual 492, 3) := by decide +kernel
theorem d_S_charAt_4 : decode b_S_charAt 4 = .ok (.ifCond .eq 12, 3) := by decide +kernel
theorem d_S_charAt_7 : decode b_S_charAt 7 = .ok (.aload_n 0, 1) := by decide +kernel
theorem d_S_charAt_8 : decode b_S_charAt 8 = .ok (.getfield 9, 3) := by decide +kernel
theorem d_S_charAt_11 : decode b_S_charAt 11 = .ok (.iload_n 1, 1) := by decide +kernel
theorem d_S_charAt_12 : decode b_S_charAt 12 = .ok (.invokestatic 495, 3) := by decide +kernel
theorem d_S_charAt_15 : decode b_S_charAt 15 = .ok (.ireturn, 1) := by decide +kernel
theorem d_S_charAt_16 : decode b_S_charAt 16 = .ok (.aload_n 0, 1) := by decide +kernel
theorem d_S_charAt_17 : decode b_S_charAt 17 = .ok (.getfield 9, 3) := by decide +kernel
theorem d_S_charAt_20 : decode b_S_charAt 20 = .ok (.iload_n 1, 1) := by decide +kernel
theorem d_S_charAt_21 : decode b_S_charAt 21 = .ok (.invokestatic 498, 3) := by decide +kernel
theorem d_S_charAt_24 : decode b_S_charAt 24 = .ok (.ireturn, 1) := by decide +kernel

abbrev b_C_charAt : ByteArray := prog_21_method_2_code
def y_C_charAt : MethodName := ⟨"java/lang/StringLatin1", "charAt", "([BI)C"⟩
theorem d_C_charAt_0 : decode b_C_charAt 0 = .ok (.iload_n 1, 1) := by decide +kernel
theorem d_C_charAt_1 : decode b_C_charAt 1 = .ok (.aload_n 0, 1) := by decide +kernel
theorem d_C_charAt_2 : decode b_C_charAt 2 = .ok (.arraylength, 1) := by decide +kernel
theorem d_C_charAt_3 : decode b_C_charAt 3 = .ok (.invokestatic 9, 3) := by decide +kernel
theorem d_C_charAt_6 : decode b_C_charAt 6 = .ok (.aload_n 0, 1) := by decide +kernel
theorem d_C_charAt_7 : decode b_C_charAt 7 = .ok (.iload_n 1, 1) := by decide +kernel
theorem d_C_charAt_8 : decode b_C_charAt 8 = .ok (.baload, 1) := by decide +kernel
theorem d_C_charAt_9 : decode b_C_charAt 9 = .ok (.sipush 255, 3) := by decide +kernel
theorem d_C_charAt_12 : decode b_C_charAt 12 = .ok (.iand, 1) := by decide +kernel
theorem d_C_charAt_13 : decode b_C_charAt 13 = .ok (.i2c, 1) := by decide +kernel
theorem d_C_charAt_14 : decode b_C_charAt 14 = .ok (.ireturn, 1) := by decide +kernel

abbrev b_C_equals : ByteArray := prog_21_method_13_code
def y_C_equals : MethodName := ⟨"java/lang/StringLatin1", "equals", "([B[B)Z"⟩
theorem d_C_equals_0 : decode b_C_equals 0 = .ok (.aload_n 0, 1) := by decide +kernel
theorem d_C_equals_1 : decode b_C_equals 1 = .ok (.arraylength, 1) := by decide +kernel
theorem d_C_equals_2 : decode b_C_equals 2 = .ok (.aload_n 1, 1) := by decide +kernel
theorem d_C_equals_3 : decode b_C_equals 3 = .ok (.arraylength, 1) := by decide +kernel
theorem d_C_equals_4 : decode b_C_equals 4 = .ok (.if_icmp .ne 30, 3) := by decide +kernel
theorem d_C_equals_7 : decode b_C_equals 7 = .ok (.iconst 0, 1) := by decide +kernel
theorem d_C_equals_8 : decode b_C_equals 8 = .ok (.istore_n 2, 1) := by decide +kernel
theorem d_C_equals_9 : decode b_C_equals 9 = .ok (.iload_n 2, 1) := by decide +kernel
theorem d_C_equals_10 : decode b_C_equals 10 = .ok (.aload_n 0, 1) := by decide +kernel
theorem d_C_equals_11 : decode b_C_equals 11 = .ok (.arraylength, 1) := by decide +kernel
theorem d_C_equals_12 : decode b_C_equals 12 = .ok (.if_icmp .ge 20, 3) := by decide +kernel
theorem d_C_equals_15 : decode b_C_equals 15 = .ok (.aload_n 0, 1) := by decide +kernel
theorem d_C_equals_16 : decode b_C_equals 16 = .ok (.iload_n 2, 1) := by decide +kernel
theorem d_C_equals_17 : decode b_C_equals 17 = .ok (.baload, 1) := by decide +kernel
theorem d_C_equals_18 : decode b_C_equals 18 = .ok (.aload_n 1, 1) := by decide +kernel
theorem d_C_equals_19 : decode b_C_equals 19 = .ok (.iload_n 2, 1) := by decide +kernel
theorem d_C_equals_20 : decode b_C_equals 20 = .ok (.baload, 1) := by decide +kernel
theorem d_C_equals_21 : decode b_C_equals 21 = .ok (.if_icmp .eq 5, 3) := by decide +kernel
theorem d_C_equals_24 : decode b_C_equals 24 = .ok (.iconst 0, 1) := by decide +kernel
theorem d_C_equals_25 : decode b_C_equals 25 = .ok (.ireturn, 1) := by decide +kernel
theorem d_C_equals_26 : decode b_C_equals 26 = .ok (.iinc 2 1, 3) := by decide +kernel
theorem d_C_equals_29 : decode b_C_equals 29 = .ok (.goto (-20), 3) := by decide +kernel
theorem d_C_equals_32 : decode b_C_equals 32 = .ok (.iconst 1, 1) := by decide +kernel
theorem d_C_equals_33 : decode b_C_equals 33 = .ok (.ireturn, 1) := by decide +kernel
theorem d_C_equals_34 : decode b_C_equals 34 = .ok (.iconst 0, 1) := by decide +kernel
theorem d_C_equals_35 : decode b_C_equals 35 = .ok (.ireturn, 1) := by decide +kernel

abbrev b_S_equals : ByteArray := prog_19_method_66_code
def y_S_equals : MethodName := ⟨"java/lang/String", "equals", "(Ljava/lang/Object;)Z"⟩
theorem d_S_equals_0 : decode b_S_equals 0 = .ok (.aload_n 0, 1) := by decide +kernel
theorem d_S_equals_1 : decode b_S_equals 1 = .ok (.aload_n 1, 1) := by decide +kernel
theorem d_S_equals_2 : decode b_S_equals 2 = .ok (.if_acmp .ne 5, 3) := by decide +kernel
theorem d_S_equals_5 : decode b_S_equals 5 = .ok (.iconst 1, 1) := by decide +kernel
theorem d_S_equals_6 : decode b_S_equals 6 = .ok (.ireturn, 1) := by decide +kernel
theorem d_S_equals_7 : decode b_S_equals 7 = .ok (.aload_n 1, 1) := by decide +kernel
theorem d_S_equals_8 : decode b_S_equals 8 = .ok (.instanceof 10, 3) := by decide +kernel
theorem d_S_equals_11 : decode b_S_equals 11 = .ok (.ifCond .eq 43, 3) := by decide +kernel
theorem d_S_equals_14 : decode b_S_equals 14 = .ok (.aload_n 1, 1) := by decide +kernel
theorem d_S_equals_15 : decode b_S_equals 15 = .ok (.checkcast 10, 3) := by decide +kernel
theorem d_S_equals_18 : decode b_S_equals 18 = .ok (.astore_n 2, 1) := by decide +kernel
theorem d_S_equals_19 : decode b_S_equals 19 = .ok (.getstatic 38, 3) := by decide +kernel
theorem d_S_equals_22 : decode b_S_equals 22 = .ok (.ifCond .eq 14, 3) := by decide +kernel
theorem d_S_equals_25 : decode b_S_equals 25 = .ok (.aload_n 0, 1) := by decide +kernel
theorem d_S_equals_26 : decode b_S_equals 26 = .ok (.getfield 15, 3) := by decide +kernel
theorem d_S_equals_29 : decode b_S_equals 29 = .ok (.aload_n 2, 1) := by decide +kernel
theorem d_S_equals_30 : decode b_S_equals 30 = .ok (.getfield 15, 3) := by decide +kernel
theorem d_S_equals_33 : decode b_S_equals 33 = .ok (.if_icmp .ne 21, 3) := by decide +kernel
theorem d_S_equals_36 : decode b_S_equals 36 = .ok (.aload_n 0, 1) := by decide +kernel
theorem d_S_equals_37 : decode b_S_equals 37 = .ok (.getfield 9, 3) := by decide +kernel
theorem d_S_equals_40 : decode b_S_equals 40 = .ok (.aload_n 2, 1) := by decide +kernel
theorem d_S_equals_41 : decode b_S_equals 41 = .ok (.getfield 9, 3) := by decide +kernel
theorem d_S_equals_44 : decode b_S_equals 44 = .ok (.invokestatic 541, 3) := by decide +kernel
theorem d_S_equals_47 : decode b_S_equals 47 = .ok (.ifCond .eq 7, 3) := by decide +kernel
theorem d_S_equals_50 : decode b_S_equals 50 = .ok (.iconst 1, 1) := by decide +kernel
theorem d_S_equals_51 : decode b_S_equals 51 = .ok (.goto 4, 3) := by decide +kernel
theorem d_S_equals_54 : decode b_S_equals 54 = .ok (.iconst 0, 1) := by decide +kernel
theorem d_S_equals_55 : decode b_S_equals 55 = .ok (.ireturn, 1) := by decide +kernel

set_option maxHeartbeats 4000000 in
set_option maxRecDepth 100000 in
/-- String.coder() -/
theorem c_S_coder (l : Launch) (g : gG) (H : Heap) (a v : Nat) (f0 : sO g H a v) : Met l y_S_coder (wC y_S_coder b_S_coder 1 (some .byte)) (rmk 0 0 0 0) (pC g H [.ref a]) (qP H (fun v => v = some (.int 0))) 0 0 no_ := by
  refine mB (by decide) (Nat.le_of_ble_eq_true rfl) ?_
  intro p e s m below meth c ls C0 hH hZ hnm hl
  have C0 : cF g p s m _ meth c b_S_coder 1 "java/lang/String" (some .byte) := C0
  obtain ⟨hx, hb, hml, hown, hts, hr, hlk, hK⟩ := id C0
  subst hH
  have hl : lv_has ls 1 [(0, .ref a)] := hl
  refine va_gets hx hb hZ.1 va_S.rf hown (hts (.fieldLink "java/lang/String" 38 "java/lang/String" "COMPACT_STRINGS" "Z") (in_1 (List.mem_of_getElem? (i := 93) rfl) rfl)) (fun _ h9 => h9) d_S_coder_0 ?_
  refine lv_if_eq (tgt := 13) hx hb d_S_coder_3 (by decide) (fun c3 => ?_) (fun c3 => ?_)
  · skip
    first | exact absurd c3 (by decide) | exact absurd (by decide) c3
  · skip
    refine lv_aload_n hx hb d_S_coder_6 rfl (lv_at hl 0 rfl) ?_
    refine s_get hx hb hts hown hK f0 1 (by decide) (hts (.fieldLink "java/lang/String" 15 "java/lang/String" "coder" "B") (in_2 (List.mem_of_getElem? (i := 147) rfl) rfl)) d_S_coder_7 ?_
    refine W.eq (g2 := F0 m 10 ls [.int 0]) rfl ?_
    refine lv_goto (tgt := 14) hx hb d_S_coder_10 (by decide) ?_
    exact W.zret hx hb hr rfl (fun t9 ht hW => ⟨_, rfl, rfl, ht⟩) (fun q h => by cases h) d_S_coder_14 hlk
set_option maxHeartbeats 4000000 in
set_option maxRecDepth 100000 in
/-- String.isLatin1() -/
theorem c_S_isLatin1 (l : Launch) (g : gG) (H : Heap) (a v : Nat) (f0 : sO g H a v) : Met l y_S_isLatin1 (wC y_S_isLatin1 b_S_isLatin1 1 (some .boolean)) (rmk 0 0 0 0) (pC g H [.ref a]) (qP H (fun v => v = some (.int 1))) 0 0 no_ := by
  refine mB (by decide) (Nat.le_of_ble_eq_true rfl) ?_
  intro p e s m below meth c ls C0 hH hZ hnm hl
  have C0 : cF g p s m _ meth c b_S_isLatin1 1 "java/lang/String" (some .boolean) := C0
  obtain ⟨hx, hb, hml, hown, hts, hr, hlk, hK⟩ := id C0
  subst hH
  have hl : lv_has ls 1 [(0, .ref a)] := hl
  refine va_gets hx hb hZ.1 va_S.rf hown (hts (.fieldLink "java/lang/String" 38 "java/lang/String" "COMPACT_STRINGS" "Z") (in_1 (List.mem_of_getElem? (i := 93) rfl) rfl)) (fun _ h9 => h9) d_S_isLatin1_0 ?_
  refine lv_if_eq (tgt := 17) hx hb d_S_isLatin1_3 (by decide) (fun c3 => ?_) (fun c3 => ?_)
  · skip
    first | exact absurd c3 (by decide) | exact absurd (by decide) c3
  · skip
    refine lv_aload_n hx hb d_S_isLatin1_6 rfl (lv_at hl 0 rfl) ?_
    refine s_get hx hb hts hown hK f0 1 (by decide) (hts (.fieldLink "java/lang/String" 15 "java/lang/String" "coder" "B") (in_2 (List.mem_of_getElem? (i := 147) rfl) rfl)) d_S_isLatin1_7 ?_
    refine W.eq (g2 := F0 m 10 ls [.int 0]) rfl ?_
    refine lv_if_ne (tgt := 17) hx hb d_S_isLatin1_10 (by decide) (fun c10 => ?_) (fun c10 => ?_)
    · skip
      first | exact absurd c10 (by decide) | exact absurd (by decide) c10
    · skip
      refine lv_iconst (v := 1) hx hb d_S_isLatin1_13 (by decide) ?_
      refine lv_goto (tgt := 18) hx hb d_S_isLatin1_14 (by decide) ?_
      exact W.zret hx hb hr rfl (fun t9 ht hW => ⟨_, rfl, rfl, ht⟩) (fun q h => by cases h) d_S_isLatin1_18 hlk
theorem k_S_length_6 : kV "java/lang/String" 335 "java/lang/String" y_S_coder b_S_coder 1 (some .byte) 0 := ⟨(in_1 (List.mem_of_getElem? (i := 89) rfl) rfl), (in_1 (List.mem_of_getElem? (i := 90) rfl) rfl), (in_1 (List.mem_of_getElem? (i := 91) rfl) rfl), (in_1 (List.mem_of_getElem? (i := 4) rfl) rfl), (in_1 (List.mem_of_getElem? (i := 92) rfl) rfl), ⟨by decide, by decide, by decide +kernel⟩⟩
set_option maxHeartbeats 4000000 in
set_option maxRecDepth 100000 in
/-- String.length() -/
theorem c_S_length (l : Launch) (g : gG) (H : Heap) (a v n : Nat) (f : Nat → Int32) (f0 : sO g H a v) (f1 : bA g H v n f) : Met l y_S_length (wC y_S_length b_S_length 1 (some .int)) (rmk 1 0 0 20) (pC g H [.ref a]) (qP H (fun v => v = some (.int (nI n)))) 0 0 no_ := by
  refine mB (by decide) (Nat.le_of_ble_eq_true rfl) ?_
  intro p e s m below meth c ls C0 hH hZ hnm hl
  have C0 : cF g p s m _ meth c b_S_length 1 "java/lang/String" (some .int) := C0
  obtain ⟨hx, hb, hml, hown, hts, hr, hlk, hK⟩ := id C0
  subst hH
  have hl : lv_has ls 1 [(0, .ref a)] := hl
  refine lv_aload_n hx hb d_S_length_0 rfl (lv_at hl 0 rfl) ?_
  refine s_get hx hb hts hown hK f0 0 (by decide) (hts (.fieldLink "java/lang/String" 9 "java/lang/String" "value" "[B") (in_2 (List.mem_of_getElem? (i := 146) rfl) rfl)) d_S_length_1 ?_
  refine W.eq (g2 := F0 m 4 ls [.ref v]) rfl ?_
  refine b_len hx hb hK f1 d_S_length_4 ?_
  refine lv_aload_n hx hb d_S_length_5 rfl (lv_at hl 0 rfl) ?_
  refine aP (rV (As := []) (rest := [.int (nI n)]) C0 (c_S_coder l g s.heap a v f0) hZ k_S_length_6 rfl rfl ⟨Nat.le_of_ble_eq_true rfl, Nat.le_of_ble_eq_true rfl⟩ (s_recv hK f0) rfl hl.1 rfl (Nat.le_of_ble_eq_true rfl) d_S_length_6 ⟨Nat.zero_le _, Nat.zero_le _⟩) ?_
  intro v hv; subst hv
  refine W.eq (g2 := F0 m 9 ls [.int 0, .int (nI n)]) rfl ?_
  refine lv_ishr hx hb d_S_length_9 ?_
  exact W.iret hx hb hr (fun t9 ht hW => ⟨_, rfl, by rw [sb_shr0], ht⟩) (fun q h => by cases h) d_S_length_10 hlk

abbrev b_P_checkIndex0 : ByteArray := prog_27_method_11_code
def y_P_checkIndex0 : MethodName := ⟨"jdk/internal/util/Preconditions", "checkIndex", "(IILjava/util/function/BiFunction;)I"⟩
theorem d_P_checkIndex0_0 : decode b_P_checkIndex0 0 = .ok (.iload_n 0, 1) := by decide +kernel
theorem d_P_checkIndex0_1 : decode b_P_checkIndex0 1 = .ok (.ifCond .lt 8, 3) := by decide +kernel
theorem d_P_checkIndex0_4 : decode b_P_checkIndex0 4 = .ok (.iload_n 0, 1) := by decide +kernel
theorem d_P_checkIndex0_5 : decode b_P_checkIndex0 5 = .ok (.iload_n 1, 1) := by decide +kernel
theorem d_P_checkIndex0_6 : decode b_P_checkIndex0 6 = .ok (.if_icmp .lt 10, 3) := by decide +kernel
theorem d_P_checkIndex0_9 : decode b_P_checkIndex0 9 = .ok (.aload_n 2, 1) := by decide +kernel
theorem d_P_checkIndex0_10 : decode b_P_checkIndex0 10 = .ok (.iload_n 0, 1) := by decide +kernel
theorem d_P_checkIndex0_11 : decode b_P_checkIndex0 11 = .ok (.iload_n 1, 1) := by decide +kernel
theorem d_P_checkIndex0_12 : decode b_P_checkIndex0 12 = .ok (.invokestatic 95, 3) := by decide +kernel
theorem d_P_checkIndex0_15 : decode b_P_checkIndex0 15 = .ok (.athrow, 1) := by decide +kernel
theorem d_P_checkIndex0_16 : decode b_P_checkIndex0 16 = .ok (.iload_n 0, 1) := by decide +kernel
theorem d_P_checkIndex0_17 : decode b_P_checkIndex0 17 = .ok (.ireturn, 1) := by decide +kernel

abbrev b_S_checkIndex : ByteArray := prog_19_method_155_code
def y_S_checkIndex : MethodName := ⟨"java/lang/String", "checkIndex", "(II)V"⟩
theorem d_S_checkIndex_0 : decode b_S_checkIndex 0 = .ok (.iload_n 0, 1) := by decide +kernel
theorem d_S_checkIndex_1 : decode b_S_checkIndex 1 = .ok (.iload_n 1, 1) := by decide +kernel
theorem d_S_checkIndex_2 : decode b_S_checkIndex 2 = .ok (.getstatic 1053, 3) := by decide +kernel
theorem d_S_checkIndex_5 : decode b_S_checkIndex 5 = .ok (.invokestatic 1059, 3) := by decide +kernel
theorem d_S_checkIndex_8 : decode b_S_checkIndex 8 = .ok (.pop, 1) := by decide +kernel
theorem d_S_checkIndex_9 : decode b_S_checkIndex 9 = .ok (.return_, 1) := by decide +kernel

theorem k_S_checkIndex_5 : kS "java/lang/String" 1059 y_P_checkIndex0 b_P_checkIndex0 3 (some .int) 3 := ⟨(in_1 (List.mem_of_getElem? (i := 110) rfl) rfl), (in_1 (List.mem_of_getElem? (i := 111) rfl) rfl), (in_1 (List.mem_of_getElem? (i := 9) rfl) rfl), (in_1 (List.mem_of_getElem? (i := 112) rfl) rfl), ⟨by decide, by decide, by decide +kernel⟩⟩
set_option maxHeartbeats 4000000 in
set_option maxRecDepth 100000 in
/-- Preconditions.checkIndex, in range -/
theorem c_P_checkIndex0 (l : Launch) (g : gG) (H : Heap) (i : Int32) (n : Nat) (r : Option Nat) (hi : vp_in i n) (hn : n < 2 ^ 31) : Met l y_P_checkIndex0 (wC y_P_checkIndex0 b_P_checkIndex0 3 (some .int)) (rmk 0 0 0 0) (pC g H [.int i, .int (nI n), va_rf r]) (qP H (fun v => v = some (.int i))) 0 0 no_ := by
  refine mB (by decide) (by cases r <;> exact Nat.le_of_ble_eq_true rfl) ?_
  intro p e s m below meth c ls C0 hH hZ hnm hl
  have C0 : cF g p s m _ meth c b_P_checkIndex0 3 "jdk/internal/util/Preconditions" (some .int) := C0
  obtain ⟨hx, hb, hml, hown, hts, hr, hlk, hK⟩ := id C0
  subst hH
  have hl : lv_has ls 3 [(0, .int i), (1, .int (nI n)), (2, va_rf r)] := hl
  have hl := hl
  refine lv_iload_n hx hb d_P_checkIndex0_0 rfl (lv_at hl 0 rfl) ?_
  refine lv_if_lt (tgt := 9) hx hb d_P_checkIndex0_1 (by decide) (fun c1 => ?_) (fun c1 => ?_)
  · skip
    exact absurd c1 (fun z => hi (Or.inl z))
  · skip
    refine lv_iload_n hx hb d_P_checkIndex0_4 rfl (lv_at hl 0 rfl) ?_
    refine lv_iload_n hx hb d_P_checkIndex0_5 rfl (lv_at hl 1 rfl) ?_
    refine lv_icmp_lt (tgt := 16) hx hb d_P_checkIndex0_6 (by decide) (fun c6 => ?_) (fun c6 => ?_)
    · skip
      refine lv_iload_n hx hb d_P_checkIndex0_16 rfl (lv_at hl 0 rfl) ?_
      exact W.iret hx hb hr (fun t9 ht hW => ⟨_, rfl, rfl, ht⟩) (fun q h => by cases h) d_P_checkIndex0_17 hlk
    · skip
      exact absurd (show i < nI n from by obtain ⟨j, hj, e⟩ := vp_in_of hi hn; rw [e]; exact nI_lt hj hn) c6
set_option maxHeartbeats 4000000 in
set_option maxRecDepth 100000 in
/-- String.checkIndex, in range -/
theorem c_S_checkIndex (l : Launch) (g : gG) (H : Heap) (i : Int32) (n : Nat) (hi : vp_in i n) (hn : n < 2 ^ 31) : Met l y_S_checkIndex (wC y_S_checkIndex b_S_checkIndex 2 none) (rmk 1 0 0 22) (pC g H [.int i, .int (nI n)]) (qP H (fun v => v = none)) 0 0 no_ := by
  refine mB (by decide) (Nat.le_of_ble_eq_true rfl) ?_
  intro p e s m below meth c ls C0 hH hZ hnm hl
  have C0 : cF g p s m _ meth c b_S_checkIndex 2 "java/lang/String" none := C0
  obtain ⟨hx, hb, hml, hown, hts, hr, hlk, hK⟩ := id C0
  subst hH
  have hl : lv_has ls 2 [(0, .int i), (1, .int (nI n))] := hl
  refine lv_iload_n hx hb d_S_checkIndex_0 rfl (lv_at hl 0 rfl) ?_
  refine lv_iload_n hx hb d_S_checkIndex_1 rfl (lv_at hl 1 rfl) ?_
  obtain ⟨r0, hr0⟩ := hZ.2
  refine va_gets hx hb hr0 va_S.rf hown (hts (.fieldLink "java/lang/String" 1053 "jdk/internal/util/Preconditions" "SIOOBE_FORMATTER" "Ljava/util/function/BiFunction;") (in_1 (List.mem_of_getElem? (i := 108) rfl) rfl)) (fun _ h9 => h9) d_S_checkIndex_2 ?_
  refine aP (rS (As := [.int i, .int (nI n), va_rf r0]) (rest := []) C0 (c_P_checkIndex0 l g s.heap i n r0 hi hn) hZ k_S_checkIndex_5 rfl rfl ⟨Nat.le_of_ble_eq_true rfl, Nat.le_of_ble_eq_true rfl⟩ rfl hl.1 rfl (Nat.le_of_ble_eq_true rfl) d_S_checkIndex_5 ⟨Nat.zero_le _, Nat.zero_le _⟩) ?_
  intro v hv; subst hv
  refine W.eq (g2 := F0 m 8 ls [.int i]) rfl ?_
  refine lv_pop hx hb d_S_checkIndex_8 rfl ?_
  exact W.vret hx hb hr (fun t9 ht hW => ⟨_, rfl, rfl, ht⟩) (fun q h => by cases h) d_S_checkIndex_9 hlk
theorem k_C_charAt_3 : kS "java/lang/StringLatin1" 9 y_S_checkIndex b_S_checkIndex 2 none 2 := ⟨(in_1 (List.mem_of_getElem? (i := 105) rfl) rfl), (in_1 (List.mem_of_getElem? (i := 106) rfl) rfl), (in_1 (List.mem_of_getElem? (i := 4) rfl) rfl), (in_1 (List.mem_of_getElem? (i := 107) rfl) rfl), ⟨by decide, by decide, by decide +kernel⟩⟩
set_option maxHeartbeats 4000000 in
set_option maxRecDepth 100000 in
/-- StringLatin1.charAt -/
theorem c_C_charAt (l : Launch) (g : gG) (H : Heap) (v n : Nat) (f : Nat → Int32) (i : Int32) (f1 : bA g H v n f) (hi : vp_in i n) (hn : n < 2 ^ 31) (hc : (((f i.toNatClampNeg) &&& 255).toUInt32 % 65536).toInt32 = f i.toNatClampNeg) (hw : narrow .char (.int (f i.toNatClampNeg)) = .int (f i.toNatClampNeg)) : Met l y_C_charAt (wC y_C_charAt b_C_charAt 2 (some .char)) (rmk 2 0 0 43) (pC g H [.ref v, .int i]) (qP H (fun v => v = some (.int (f i.toNatClampNeg)))) 0 0 no_ := by
  refine mB (by decide) (Nat.le_of_ble_eq_true rfl) ?_
  intro p e s m below meth c ls C0 hH hZ hnm hl
  have C0 : cF g p s m _ meth c b_C_charAt 2 "java/lang/StringLatin1" (some .char) := C0
  obtain ⟨hx, hb, hml, hown, hts, hr, hlk, hK⟩ := id C0
  subst hH
  have hl : lv_has ls 2 [(0, .ref v), (1, .int i)] := hl
  refine lv_iload_n hx hb d_C_charAt_0 rfl (lv_at hl 1 rfl) ?_
  refine lv_aload_n hx hb d_C_charAt_1 rfl (lv_at hl 0 rfl) ?_
  refine b_len hx hb hK f1 d_C_charAt_2 ?_
  refine aP (rS (As := [.int i, .int (nI n)]) (rest := []) C0 (c_S_checkIndex l g s.heap i n hi hn) hZ k_C_charAt_3 rfl rfl ⟨Nat.le_of_ble_eq_true rfl, Nat.le_of_ble_eq_true rfl⟩ rfl hl.1 rfl (Nat.le_of_ble_eq_true rfl) d_C_charAt_3 ⟨Nat.zero_le _, Nat.zero_le _⟩) ?_
  intro v hv; subst hv
  refine W.eq (g2 := F0 m 6 ls []) rfl ?_
  refine lv_aload_n hx hb d_C_charAt_6 rfl (lv_at hl 0 rfl) ?_
  refine lv_iload_n hx hb d_C_charAt_7 rfl (lv_at hl 1 rfl) ?_
  refine b_ld hx hb hK f1 hi d_C_charAt_8 ?_
  refine lv_sipush (v := 255) hx hb d_C_charAt_9 (by decide) ?_
  refine lv_iand hx hb d_C_charAt_12 ?_
  refine lv_i2c hx hb d_C_charAt_13 hc ?_
  exact W.zret hx hb hr hw (fun t9 ht hW => ⟨_, rfl, rfl, ht⟩) (fun q h => by cases h) d_C_charAt_14 hlk
theorem k_S_charAt_1 : kV "java/lang/String" 492 "java/lang/String" y_S_isLatin1 b_S_isLatin1 1 (some .boolean) 0 := ⟨(in_1 (List.mem_of_getElem? (i := 98) rfl) rfl), (in_1 (List.mem_of_getElem? (i := 99) rfl) rfl), (in_1 (List.mem_of_getElem? (i := 100) rfl) rfl), (in_1 (List.mem_of_getElem? (i := 4) rfl) rfl), (in_1 (List.mem_of_getElem? (i := 101) rfl) rfl), ⟨by decide, by decide, by decide +kernel⟩⟩
theorem k_S_charAt_12 : kS "java/lang/String" 495 y_C_charAt b_C_charAt 2 (some .char) 2 := ⟨(in_1 (List.mem_of_getElem? (i := 102) rfl) rfl), (in_1 (List.mem_of_getElem? (i := 103) rfl) rfl), (in_1 (List.mem_of_getElem? (i := 8) rfl) rfl), (in_1 (List.mem_of_getElem? (i := 104) rfl) rfl), ⟨by decide, by decide, by decide +kernel⟩⟩
set_option maxHeartbeats 4000000 in
set_option maxRecDepth 100000 in
/-- String.charAt -/
theorem c_S_charAt (l : Launch) (g : gG) (H : Heap) (a v n : Nat) (f : Nat → Int32) (i : Int32) (f0 : sO g H a v) (f1 : bA g H v n f) (hi : vp_in i n) (hn : n < 2 ^ 31) (hc : (((f i.toNatClampNeg) &&& 255).toUInt32 % 65536).toInt32 = f i.toNatClampNeg) (hw : narrow .char (.int (f i.toNatClampNeg)) = .int (f i.toNatClampNeg)) : Met l y_S_charAt (wC y_S_charAt b_S_charAt 2 (some .char)) (rmk 3 0 0 64) (pC g H [.ref a, .int i]) (qP H (fun v => v = some (.int (f i.toNatClampNeg)))) 0 0 no_ := by
  refine mB (by decide) (Nat.le_of_ble_eq_true rfl) ?_
  intro p e s m below meth c ls C0 hH hZ hnm hl
  have C0 : cF g p s m _ meth c b_S_charAt 2 "java/lang/String" (some .char) := C0
  obtain ⟨hx, hb, hml, hown, hts, hr, hlk, hK⟩ := id C0
  subst hH
  have hl : lv_has ls 2 [(0, .ref a), (1, .int i)] := hl
  refine lv_aload_n hx hb d_S_charAt_0 rfl (lv_at hl 0 rfl) ?_
  refine aP (rV (As := []) (rest := []) C0 (c_S_isLatin1 l g s.heap a v f0) hZ k_S_charAt_1 rfl rfl ⟨Nat.le_of_ble_eq_true rfl, Nat.le_of_ble_eq_true rfl⟩ (s_recv hK f0) rfl hl.1 rfl (Nat.le_of_ble_eq_true rfl) d_S_charAt_1 ⟨Nat.zero_le _, Nat.zero_le _⟩) ?_
  intro v hv; subst hv
  refine W.eq (g2 := F0 m 4 ls [.int 1]) rfl ?_
  refine lv_if_eq (tgt := 16) hx hb d_S_charAt_4 (by decide) (fun c4 => ?_) (fun c4 => ?_)
  · skip
    first | exact absurd c4 (by decide) | exact absurd (by decide) c4
  · skip
    refine lv_aload_n hx hb d_S_charAt_7 rfl (lv_at hl 0 rfl) ?_
    refine s_get hx hb hts hown hK f0 0 (by decide) (hts (.fieldLink "java/lang/String" 9 "java/lang/String" "value" "[B") (in_2 (List.mem_of_getElem? (i := 146) rfl) rfl)) d_S_charAt_8 ?_
    refine W.eq (g2 := F0 m 11 ls [.ref v]) rfl ?_
    refine lv_iload_n hx hb d_S_charAt_11 rfl (lv_at hl 1 rfl) ?_
    refine aP (rS (As := [.ref v, .int i]) (rest := []) C0 (c_C_charAt l g s.heap v n f i f1 hi hn hc hw) hZ k_S_charAt_12 rfl rfl ⟨Nat.le_of_ble_eq_true rfl, Nat.le_of_ble_eq_true rfl⟩ rfl hl.1 rfl (Nat.le_of_ble_eq_true rfl) d_S_charAt_12 ⟨Nat.zero_le _, Nat.zero_le _⟩) ?_
    intro v hv; subst hv
    refine W.eq (g2 := F0 m 15 ls [.int (f i.toNatClampNeg)]) rfl ?_
    exact W.zret hx hb hr hw (fun t9 ht hW => ⟨_, rfl, rfl, ht⟩) (fun q h => by cases h) d_S_charAt_15 hlk
end
section
/-- a truth as the machine's number -/
def bI (b : Bool) : Int32 := if b then 1 else 0
theorem bI_1 : bI true = 1 := rfl
theorem bI_0 : bI false = 0 := rfl
theorem bI_z {b : Bool} : bI b = 0 ↔ b = false := by cases b <;> decide
theorem bI_n {b : Bool} : ¬ bI b = 0 ↔ b = true := by cases b <;> decide
theorem ch_ext {t u : List Nat} (hl : t.length = u.length) (ht : ∀ c ∈ t, c < 128) (hu : ∀ c ∈ u, c < 128) (h : ∀ j, j < t.length → ch t j = ch u j) : t = u := by
  refine List.ext_getElem hl (fun j h1 h2 => ?_)
  have e := h j h1
  simp only [ch, List.getD_eq_getElem?_getD, List.getElem?_eq_getElem h1, List.getElem?_eq_getElem h2, Option.getD_some] at e
  have b1 := ht _ (List.getElem_mem h1)
  have b2 := hu _ (List.getElem_mem h2)
  exact (nI_eq (by omega) (by omega)).mp e
theorem ch_lt {t : List Nat} (ht : ∀ c ∈ t, c < 128) (j : Nat) : t.getD j 0 < 128 := by
  by_cases h : j < t.length
  · rw [List.getD_eq_getElem?_getD, List.getElem?_eq_getElem h, Option.getD_some]; exact ht _ (List.getElem_mem h)
  · rw [List.getD_eq_getElem?_getD, List.getElem?_eq_none (by omega)]; decide

set_option maxHeartbeats 4000000 in
set_option maxRecDepth 100000 in
theorem lp_C_equals {p : Program} {l : Launch} {e : Env} {s : State} {m : MethodId} {args : Array Value} {below : List Frame} {meth : Method} {c : Code} {g : gG} (C0 : cF g p s m args meth c b_C_equals 3 "java/lang/StringLatin1" (some .boolean)) (v u : Nat) (t t2 : List Nat) (f1 : bA g s.heap v t.length (ch t)) (f2 : bA g s.heap u t2.length (ch t2)) (hl0 : t.length = t2.length) (ht : ∀ c ∈ t, c < 128) (ht2 : ∀ c ∈ t2, c < 128) (hn : t.length ≤ 100) :
    ∀ (n i : Nat), i ≤ t.length → t.length + 1 ≤ i + n → (∀ j, j < i → ch t j = ch t2 j) → ∀ (ls : Array Slot), lv_has ls 3 [(2, .int (nI i)), (0, .ref v), (1, .ref u)] → W p l e (rmk 0 0 0 0) s m args below meth c s.heap [] 0 0 (MQ below (qP s.heap (fun v => v = some (.int (bI (decide (t = t2)))))) args s 0 0 no_) (F0 m 9 ls []) := by
  obtain ⟨hx, hb, hml, hown, hts, hr, hlk, hK⟩ := id C0
  intro n
  induction n with
  | zero => intro i h1 h2; exact absurd h2 (by omega)
  | succ n ih =>
    intro i hi hin hq ls hl
    refine lv_iload_n hx hb d_C_equals_9 rfl (lv_at hl 0 rfl) ?_
    refine lv_aload_n hx hb d_C_equals_10 rfl (lv_at hl 1 rfl) ?_
    refine b_len hx hb hK f1 d_C_equals_11 ?_
    refine lv_icmp_ge (tgt := 32) hx hb d_C_equals_12 (by decide) (fun c12 => ?_) (fun c12 => ?_)
    · skip
      refine lv_iconst (v := 1) hx hb d_C_equals_32 (by decide) ?_
      have e : t = t2 := ch_ext hl0 ht ht2 (fun j hj => hq j (by have := (nI_leI (by omega) (by omega)).mp c12; omega))
      exact W.zret hx hb hr rfl (fun t9 ht hW => ⟨_, rfl, by rw [decide_eq_true e]; rfl, ht⟩) (fun q h => by cases h) d_C_equals_33 hlk
    · skip
      have hlt : i < t.length := by rcases Nat.lt_or_ge i t.length with q | q; exact q; exact absurd (nI_le q (by omega)) c12
      have hci : (nI i).toNatClampNeg = i := nI_clamp (by omega)
      refine lv_aload_n hx hb d_C_equals_15 rfl (lv_at hl 1 rfl) ?_
      refine lv_iload_n hx hb d_C_equals_16 rfl (lv_at hl 0 rfl) ?_
      refine b_ld hx hb hK f1 (vp_in_nI hlt (by omega)) d_C_equals_17 ?_
      refine lv_aload_n hx hb d_C_equals_18 rfl (lv_at hl 2 rfl) ?_
      refine lv_iload_n hx hb d_C_equals_19 rfl (lv_at hl 0 rfl) ?_
      refine b_ld hx hb hK f2 (vp_in_nI (by omega) (by omega)) d_C_equals_20 ?_
      refine lv_icmp_eq (tgt := 26) hx hb d_C_equals_21 (by decide) (fun c21 => ?_) (fun c21 => ?_)
      · skip
        obtain ⟨x_1, ex_1⟩ : ∃ y : Int32, y = (nI i) + 1 := ⟨_, rfl⟩
        refine lv_iinc (v := x_1) (lv' := [(2, .int x_1), (0, .ref v), (1, .ref u)]) hx hb d_C_equals_26 hl (k := 0) rfl (by rw [ex_1]; rfl) (by decide) rfl (fun ls hl => ?_)
        refine lv_goto (tgt := 9) hx hb d_C_equals_29 (by decide) ?_
        rw [hci] at c21
        exact ih (i + 1) hlt (by omega) (fun j hj => by rcases (show j < i ∨ j = i by omega) with q | q; exact hq j q; rw [q]; exact c21) ls (by rw [ex_1, nI_1] at hl; exact lv_sub hl [0, 1, 2] rfl)
      · skip
        refine lv_iconst (v := 0) hx hb d_C_equals_24 (by decide) ?_
        have e : ¬ t = t2 := fun z => c21 (by rw [z])
        exact W.zret hx hb hr rfl (fun t9 ht hW => ⟨_, rfl, by rw [decide_eq_false e]; rfl, ht⟩) (fun q h => by cases h) d_C_equals_25 hlk
set_option maxHeartbeats 4000000 in
set_option maxRecDepth 100000 in
/-- StringLatin1.equals -/
theorem c_C_equals (l : Launch) (g : gG) (H : Heap) (v u : Nat) (t t2 : List Nat) (f1 : bA g H v t.length (ch t)) (f2 : bA g H u t2.length (ch t2)) (ht : ∀ c ∈ t, c < 128) (ht2 : ∀ c ∈ t2, c < 128) (hn : t.length ≤ 100) (hn2 : t2.length ≤ 100) : Met l y_C_equals (wC y_C_equals b_C_equals 3 (some .boolean)) (rmk 0 0 0 0) (pC g H [.ref v, .ref u]) (qP H (fun v => v = some (.int (bI (decide (t = t2)))))) 0 0 no_ := by
  refine mB (by decide) (Nat.le_of_ble_eq_true rfl) ?_
  intro p e s m below meth c ls C0 hH hZ hnm hl
  have C0 : cF g p s m _ meth c b_C_equals 3 "java/lang/StringLatin1" (some .boolean) := C0
  obtain ⟨hx, hb, hml, hown, hts, hr, hlk, hK⟩ := id C0
  subst hH
  have hl : lv_has ls 3 [(0, .ref v), (1, .ref u)] := hl
  refine lv_aload_n hx hb d_C_equals_0 rfl (lv_at hl 0 rfl) ?_
  refine b_len hx hb hK f1 d_C_equals_1 ?_
  refine lv_aload_n hx hb d_C_equals_2 rfl (lv_at hl 1 rfl) ?_
  refine b_len hx hb hK f2 d_C_equals_3 ?_
  refine lv_icmp_ne (tgt := 34) hx hb d_C_equals_4 (by decide) (fun c4 => ?_) (fun c4 => ?_)
  · skip
    have e : ¬ t = t2 := fun z => c4 (by rw [z])
    refine lv_iconst (v := 0) hx hb d_C_equals_34 (by decide) ?_
    exact W.zret hx hb hr rfl (fun t9 ht hW => ⟨_, rfl, by rw [decide_eq_false e]; rfl, ht⟩) (fun q h => by cases h) d_C_equals_35 hlk
  · skip
    have c4 : t.length = t2.length := (nI_eq (by omega) (by omega)).mp c4
    refine lv_iconst (v := 0) hx hb d_C_equals_7 (by decide) ?_
    refine lv_istore_n (lv' := [(2, .int 0), (0, .ref v), (1, .ref u)]) hx hb d_C_equals_8 rfl hl (by decide) rfl (fun ls hl => ?_)
    exact lp_C_equals C0 v u t t2 f1 f2 (by have := c4; omega) ht ht2 hn (t.length + 1) 0 (Nat.zero_le _) (by omega) (fun j hj => absurd hj (by omega)) ls (lv_sub hl [0, 1, 2] rfl)
theorem k_S_equals_44 : kS "java/lang/String" 541 y_C_equals b_C_equals 3 (some .boolean) 2 := ⟨(in_4 (List.mem_of_getElem? (i := 6) rfl) rfl), (in_4 (List.mem_of_getElem? (i := 7) rfl) rfl), (in_1 (List.mem_of_getElem? (i := 8) rfl) rfl), (in_4 (List.mem_of_getElem? (i := 8) rfl) rfl), ⟨by decide, by decide, by decide +kernel⟩⟩
theorem isS_inj {g : gG} {H : Heap} {a v u : Nat} {t t2 : List Nat} (f1 : sO g H a v) (f2 : sO g H a u) (b1 : bA g H v t.length (ch t)) (b2 : bA g H u t2.length (ch t2)) (ht : ∀ c ∈ t, c < 128) (ht2 : ∀ c ∈ t2, c < 128) : t = t2 := by
  obtain ⟨c1, h1, _, _, _, h5, _⟩ := f1
  obtain ⟨c2, k1, _, _, _, k5, _⟩ := f2
  have e : c1 = c2 := Option.some.inj (h1.symm.trans k1)
  subst e
  have e2 : v = u := by have := Option.some.inj (h5.symm.trans k5); exact Value.ref.inj this
  subst e2
  obtain ⟨d1, q1, _, _, _, q5, q6⟩ := b1
  obtain ⟨d2, r1, _, _, _, r5, r6⟩ := b2
  have e3 : d1 = d2 := Option.some.inj (q1.symm.trans r1)
  subst e3
  have el : t.length = t2.length := q5.symm.trans r5
  exact ch_ext el ht ht2 (fun j hj => Value.int.inj (Option.some.inj ((q6 j hj).symm.trans (r6 j (by omega)))))
set_option maxHeartbeats 4000000 in
set_option maxRecDepth 100000 in
/-- String.equals, of two Strings -/
theorem c_S_equals (l : Launch) (g : gG) (H : Heap) (a b v u : Nat) (t t2 : List Nat) (f1 : sO g H a v) (f2 : sO g H b u) (b1 : bA g H v t.length (ch t)) (b2 : bA g H u t2.length (ch t2)) (ht : ∀ c ∈ t, c < 128) (ht2 : ∀ c ∈ t2, c < 128) (hn : t.length ≤ 100) (hn2 : t2.length ≤ 100) : Met l y_S_equals (wC y_S_equals b_S_equals 3 (some .boolean)) (rmk 1 0 0 22) (pC g H [.ref a, .ref b]) (qP H (fun v => v = some (.int (bI (decide (t = t2)))))) 0 0 no_ := by
  refine mB (by decide) (Nat.le_of_ble_eq_true rfl) ?_
  intro p e s m below meth c ls C0 hH hZ hnm hl
  have C0 : cF g p s m _ meth c b_S_equals 3 "java/lang/String" (some .boolean) := C0
  obtain ⟨hx, hb, hml, hown, hts, hr, hlk, hK⟩ := id C0
  subst hH
  have hl : lv_has ls 3 [(0, .ref a), (1, .ref b)] := hl
  refine lv_aload_n hx hb d_S_equals_0 rfl (lv_at hl 0 rfl) ?_
  refine lv_aload_n hx hb d_S_equals_1 rfl (lv_at hl 1 rfl) ?_
  refine lv_acmp_ne (rx := some a) (ry := some b) (tgt := 7) hx hb d_S_equals_2 (by decide) (fun c2 => ?_) (fun c2 => ?_)
  · skip
    refine lv_aload_n hx hb d_S_equals_7 rfl (lv_at hl 1 rfl) ?_
    refine va_instS hx hb hown (hts (.classLink "java/lang/String" 10 "java/lang/String") (in_4 (List.mem_of_getElem? (i := 5) rfl) rfl)) (hK.1.1 6 _ rfl).2 (s_recv hK f2) d_S_equals_8 ?_
    refine lv_if_eq (tgt := 54) hx hb d_S_equals_11 (by decide) (fun c11 => ?_) (fun c11 => ?_)
    · skip
      first | exact absurd c11 (by decide) | exact absurd (by decide) c11
    · skip
      refine lv_aload_n hx hb d_S_equals_14 rfl (lv_at hl 1 rfl) ?_
      refine va_castS hx hb hown (hts (.classLink "java/lang/String" 10 "java/lang/String") (in_4 (List.mem_of_getElem? (i := 5) rfl) rfl)) (hK.1.1 6 _ rfl).2 (s_recv hK f2) d_S_equals_15 ?_
      refine lv_astore_n (lv' := [(2, .ref b), (0, .ref a), (1, .ref b)]) hx hb d_S_equals_18 rfl hl (by decide) rfl (fun ls hl => ?_)
      refine va_gets hx hb hZ.1 va_S.rf hown (hts (.fieldLink "java/lang/String" 38 "java/lang/String" "COMPACT_STRINGS" "Z") (in_1 (List.mem_of_getElem? (i := 93) rfl) rfl)) (fun _ h9 => h9) d_S_equals_19 ?_
      refine lv_if_eq (tgt := 36) hx hb d_S_equals_22 (by decide) (fun c22 => ?_) (fun c22 => ?_)
      · skip
        first | exact absurd c22 (by decide) | exact absurd (by decide) c22
      · skip
        refine lv_aload_n hx hb d_S_equals_25 rfl (lv_at hl 1 rfl) ?_
        refine s_get hx hb hts hown hK f1 1 (by decide) (hts (.fieldLink "java/lang/String" 15 "java/lang/String" "coder" "B") (in_2 (List.mem_of_getElem? (i := 147) rfl) rfl)) d_S_equals_26 ?_
        refine W.eq (g2 := F0 m 29 ls [.int 0]) rfl ?_
        refine lv_aload_n hx hb d_S_equals_29 rfl (lv_at hl 0 rfl) ?_
        refine s_get hx hb hts hown hK f2 1 (by decide) (hts (.fieldLink "java/lang/String" 15 "java/lang/String" "coder" "B") (in_2 (List.mem_of_getElem? (i := 147) rfl) rfl)) d_S_equals_30 ?_
        refine W.eq (g2 := F0 m 33 ls [.int 0, .int 0]) rfl ?_
        refine lv_icmp_ne (tgt := 54) hx hb d_S_equals_33 (by decide) (fun c33 => ?_) (fun c33 => ?_)
        · skip
          first | exact absurd c33 (by decide) | exact absurd (by decide) c33
        · skip
          refine lv_aload_n hx hb d_S_equals_36 rfl (lv_at hl 1 rfl) ?_
          refine s_get hx hb hts hown hK f1 0 (by decide) (hts (.fieldLink "java/lang/String" 9 "java/lang/String" "value" "[B") (in_2 (List.mem_of_getElem? (i := 146) rfl) rfl)) d_S_equals_37 ?_
          refine W.eq (g2 := F0 m 40 ls [.ref v]) rfl ?_
          refine lv_aload_n hx hb d_S_equals_40 rfl (lv_at hl 0 rfl) ?_
          refine s_get hx hb hts hown hK f2 0 (by decide) (hts (.fieldLink "java/lang/String" 9 "java/lang/String" "value" "[B") (in_2 (List.mem_of_getElem? (i := 146) rfl) rfl)) d_S_equals_41 ?_
          refine W.eq (g2 := F0 m 44 ls [.ref u, .ref v]) rfl ?_
          refine aP (rS (As := [.ref v, .ref u]) (rest := []) C0 (c_C_equals l g s.heap v u t t2 b1 b2 ht ht2 hn hn2) hZ k_S_equals_44 rfl rfl ⟨Nat.le_of_ble_eq_true rfl, Nat.le_of_ble_eq_true rfl⟩ rfl hl.1 rfl (Nat.le_of_ble_eq_true rfl) d_S_equals_44 ⟨Nat.zero_le _, Nat.zero_le _⟩) ?_
          intro v hv; subst hv
          refine W.eq (g2 := F0 m 47 ls [.int (bI (decide (t = t2)))]) rfl ?_
          refine lv_if_eq (tgt := 54) hx hb d_S_equals_47 (by decide) (fun c47 => ?_) (fun c47 => ?_)
          · skip
            rw [bI_z, decide_eq_false_iff_not] at c47
            refine lv_iconst (v := 0) hx hb d_S_equals_54 (by decide) ?_
            exact W.zret hx hb hr rfl (fun t9 ht hW => ⟨_, rfl, by rw [decide_eq_false c47]; rfl, ht⟩) (fun q h => by cases h) d_S_equals_55 hlk
          · skip
            refine lv_iconst (v := 1) hx hb d_S_equals_50 (by decide) ?_
            refine lv_goto (tgt := 55) hx hb d_S_equals_51 (by decide) ?_
            exact W.zret hx hb hr rfl (fun t9 ht hW => ⟨_, rfl, by rw [decide_eq_true (of_decide_eq_true (bI_n.mp c47))]; rfl, ht⟩) (fun q h => by cases h) d_S_equals_55 hlk
  · skip
    have e : t = t2 := by have c2 : a = b := Option.some.inj c2; subst c2; exact isS_inj f1 f2 b1 b2 ht ht2
    refine lv_iconst (v := 1) hx hb d_S_equals_5 (by decide) ?_
    exact W.zret hx hb hr rfl (fun t9 ht hW => ⟨_, rfl, by rw [decide_eq_true e]; rfl, ht⟩) (fun q h => by cases h) d_S_equals_6 hlk
end
section
/-! THE CLASS'S STATE: names, rows, ledgers, numbers, as mathematical values and as cells -/
/-- MIX, as the machine computes it -/
def mixS (h x : Int64) : Int64 := (h ^^^ x) * (-7046029254386353131) ^^^ (((h ^^^ x) * (-7046029254386353131)).toUInt64 >>> ((29 : Int32).toInt64.toUInt64 &&& Int64.toUInt64 63)).toInt64
def joinS (a b : Int64) : Int64 := mixS (mixS 1 a) b
def mixT (h : Int64) : List Nat → Int64
  | [] => h
  | c :: t => mixT (mixS h (nI c).toInt64) t
/-- a row: kind, person, name, the name after it, second, third, origin -/
abbrev Rw : Type := Int32 × Int32 × List Nat × List Nat × Int32 × Int32 × Int32
abbrev rk (r : Rw) : Int32 := r.1
abbrev rp (r : Rw) : Int32 := r.2.1
abbrev rn (r : Rw) : List Nat := r.2.2.1
abbrev ra (r : Rw) : List Nat := r.2.2.2.1
abbrev r2 (r : Rw) : Int32 := r.2.2.2.2.1
abbrev r3 (r : Rw) : Int32 := r.2.2.2.2.2.1
abbrev ro (r : Rw) : Int32 := r.2.2.2.2.2.2
def hS (r : Rw) : Int64 :=
  let h := mixS (mixT (mixS (mixS 0 (rk r).toInt64) (rp r).toInt64) (rn r)) 256
  if rk r = 3 then mixT h (ra r) else mixS (mixS h (r2 r).toInt64) (r3 r).toInt64
def digS (r : Rw) : Int64 := if rk r = -1 then 0 else hS r
def noRw : Rw := (-1, -1, [], [], -1, -1, -1)
def foldT (t : List Nat) : List Nat := t.filter (fun c => !(c == 45))
def isN (g : gG) (H : Heap) (a : Nat) (t : List Nat) : Prop := ∃ sa fa, ob g H a 2 [.ref sa, .ref fa] ∧ isS g H sa t ∧ isS g H fa (foldT t)
def isR (g : gG) (H : Heap) (a : Nat) (r : Rw) : Prop := ∃ na nb, ob g H a 4 [.int (rk r), .int (rp r), .ref na, .ref nb, .int (r2 r), .int (r3 r), .int (ro r), .long (digS r)] ∧ isN g H na (rn r) ∧ isN g H nb (ra r)
def isL (g : gG) (H : Heap) (a : Nat) (rows : List Rw) : Prop := ∃ w n f, ob g H a 1 [.ref w, .ref n, .int (nI rows.length)] ∧ ar g 2 H w (120, .inr (.inr (.inr (.inr f)))) ∧ isR g H n noRw ∧ rows.length ≤ 120 ∧ ∀ i, i < rows.length → ∃ r, f i = some r ∧ isR g H r (rows.getD i noRw)
/-- the row at i, or none -/
def atS (rows : List Rw) (i : Int32) : Rw := if 0 ≤ i ∧ i < nI rows.length then rows.getD i.toNatClampNeg noRw else noRw
theorem atS_in {rows : List Rw} {k : Nat} (h : k < rows.length) (hr : rows.length ≤ 120) : atS rows (nI k) = rows.getD k noRw := by
  have h1 : 0 ≤ nI k := nI_pos' (by omega)
  have h2 : nI k < nI rows.length := nI_lt h (by omega)
  rw [atS, if_pos ⟨h1, h2⟩, nI_clamp (by omega)]
/-- a list of numbers in a Numbers object: its values, how many were asked for -/
def isU (g : gG) (H : Heap) (a v : Nat) (f : Nat → Int64) (k q : Nat) : Prop := ob g H a 3 [.ref v, .int (nI k), .int (nI q)] ∧ ar g 1 H v (16, .inr (.inl f)) ∧ k ≤ 16 ∧ q ≤ 1000
def getS (f : Nat → Int64) (k : Nat) (i : Int32) : Int64 := if 0 ≤ i ∧ i < nI k then f i.toNatClampNeg else 0
/-- the greatest power of two below n -/
def fpL : Nat → Nat → Nat → Nat
  | 0, _, k => k
  | b + 1, n, k => if 2 * k < n ∧ 2 * k < 120 then fpL b n (2 * k) else k
def fpS (n : Nat) : Nat := fpL 8 n 1
end
section
set_option maxHeartbeats 4000000 in
set_option maxRecDepth 100000 in
/-- MIX -/
theorem c_T_mix (l : Launch) (g : gG) (H : Heap) (h x : Int64) : Met l y_T_mix (wC y_T_mix b_T_mix 6 (some .long)) (rmk 0 0 0 0) (pC g H [.long h, .long x]) (qP H (fun v => v = some (.long (mixS h x)))) 0 0 no_ := by
  refine mB (by decide) (Nat.le_of_ble_eq_true rfl) ?_
  intro p e s m below meth c ls C0 hH hZ hnm hl
  have C0 : cF g p s m _ meth c b_T_mix 6 "RegistryLog$Tree" (some .long) := C0
  obtain ⟨hx, hb, hml, hown, hts, hr, hlk, hK⟩ := id C0
  subst hH
  have hl : lv_has ls 6 [(0, .long h), (2, .long x)] := hl
  refine lv_lload_n hx hb d_T_mix_0 rfl (lv_at hl 0 rfl) ?_
  refine lv_lload_n hx hb d_T_mix_1 rfl (lv_at hl 1 rfl) ?_
  refine lv_lxor hx hb d_T_mix_2 ?_
  refine lv_ldc2 (v := (-7046029254386353131)) hx hb hown (hts (.constantLong "RegistryLog$Tree" 9 (-7046029254386353131)) (in_2 (List.mem_of_getElem? (i := 174) rfl) rfl)) d_T_mix_3 ?_
  refine lv_lmul hx hb d_T_mix_6 ?_
  refine lv_topl (fun x_1 ex_1 => ?_)
  refine lv_lstore (lv' := [(4, .long x_1), (0, .long h), (2, .long x)]) hx hb d_T_mix_7 hl (by decide) rfl (fun ls hl => ?_)
  refine lv_lload hx hb d_T_mix_9 (lv_at hl 0 rfl) ?_
  refine lv_lload hx hb d_T_mix_11 (lv_at hl 0 rfl) ?_
  refine lv_bipush (v := 29) hx hb d_T_mix_13 (by decide) ?_
  refine lv_lushr hx hb d_T_mix_15 rfl ?_
  refine lv_lxor hx hb d_T_mix_16 ?_
  subst ex_1
  exact W.lret hx hb hr (fun t9 ht hW => ⟨_, rfl, rfl, ht⟩) (fun q h => by cases h) d_T_mix_17 hlk
theorem k_T_join_2 : kS "RegistryLog$Tree" 21 y_T_mix b_T_mix 6 (some .long) 2 := ⟨(in_2 (List.mem_of_getElem? (i := 180) rfl) rfl), (in_2 (List.mem_of_getElem? (i := 172) rfl) rfl), (in_1 (List.mem_of_getElem? (i := 20) rfl) rfl), (in_2 (List.mem_of_getElem? (i := 173) rfl) rfl), ⟨by decide, by decide, by decide +kernel⟩⟩
theorem k_T_join_6 : kS "RegistryLog$Tree" 21 y_T_mix b_T_mix 6 (some .long) 2 := ⟨(in_2 (List.mem_of_getElem? (i := 180) rfl) rfl), (in_2 (List.mem_of_getElem? (i := 172) rfl) rfl), (in_1 (List.mem_of_getElem? (i := 20) rfl) rfl), (in_2 (List.mem_of_getElem? (i := 173) rfl) rfl), ⟨by decide, by decide, by decide +kernel⟩⟩
set_option maxHeartbeats 4000000 in
set_option maxRecDepth 100000 in
/-- JOIN -/
theorem c_T_join (l : Launch) (g : gG) (H : Heap) (a b : Int64) : Met l y_T_join (wC y_T_join b_T_join 4 (some .long)) (rmk 1 0 0 25) (pC g H [.long a, .long b]) (qP H (fun v => v = some (.long (joinS a b)))) 0 0 no_ := by
  refine mB (by decide) (Nat.le_of_ble_eq_true rfl) ?_
  intro p e s m below meth c ls C0 hH hZ hnm hl
  have C0 : cF g p s m _ meth c b_T_join 4 "RegistryLog$Tree" (some .long) := C0
  obtain ⟨hx, hb, hml, hown, hts, hr, hlk, hK⟩ := id C0
  subst hH
  have hl : lv_has ls 4 [(0, .long a), (2, .long b)] := hl
  refine lv_lconst (v := 1) hx hb d_T_join_0 (by decide) ?_
  refine lv_lload_n hx hb d_T_join_1 rfl (lv_at hl 0 rfl) ?_
  refine aP (rS (As := [.long 1, .long a]) (rest := []) C0 (c_T_mix l g s.heap 1 a) hZ k_T_join_2 rfl rfl ⟨Nat.le_of_ble_eq_true rfl, Nat.le_of_ble_eq_true rfl⟩ rfl hl.1 rfl (Nat.le_of_ble_eq_true rfl) d_T_join_2 ⟨Nat.zero_le _, Nat.zero_le _⟩) ?_
  intro v hv; subst hv
  refine W.eq (g2 := F0 m 5 ls [.long (mixS 1 a)]) rfl ?_
  refine lv_lload_n hx hb d_T_join_5 rfl (lv_at hl 1 rfl) ?_
  refine aP (rS (As := [.long (mixS 1 a), .long b]) (rest := []) C0 (c_T_mix l g s.heap (mixS 1 a) b) hZ k_T_join_6 rfl rfl ⟨Nat.le_of_ble_eq_true rfl, Nat.le_of_ble_eq_true rfl⟩ rfl hl.1 rfl (Nat.le_of_ble_eq_true rfl) d_T_join_6 ⟨Nat.zero_le _, Nat.zero_le _⟩) ?_
  intro v hv; subst hv
  refine W.eq (g2 := F0 m 9 ls [.long (mixS (mixS 1 a) b)]) rfl ?_
  exact W.lret hx hb hr (fun t9 ht hW => ⟨_, rfl, rfl, ht⟩) (fun q h => by cases h) d_T_join_9 hlk
set_option maxHeartbeats 4000000 in
set_option maxRecDepth 100000 in
/-- Numbers.size() -/
theorem c_U_size (l : Launch) (g : gG) (H : Heap) (a v : Nat) (f : Nat → Int64) (k q : Nat) (h : isU g H a v f k q) : Met l y_U_size (wC y_U_size b_U_size 1 (some .int)) (rmk 0 0 0 0) (pC g H [.ref a]) (qP H (fun v => v = some (.int (nI k)))) 0 0 no_ := by
  refine mB (by decide) (Nat.le_of_ble_eq_true rfl) ?_
  intro p e s m below meth c ls C0 hH hZ hnm hl
  have C0 : cF g p s m _ meth c b_U_size 1 "RegistryLog$Numbers" (some .int) := C0
  obtain ⟨hx, hb, hml, hown, hts, hr, hlk, hK⟩ := id C0
  subst hH
  have hl : lv_has ls 1 [(0, .ref a)] := hl
  refine lv_aload_n hx hb d_U_size_0 rfl (lv_at hl 0 rfl) ?_
  refine va_get (D := g.1) (ci := 3) (C := R_U) (T := F_U) (N := 3) hx hb hts i_U hown hK.1 h.1 0 rfl rfl 1 (by decide) (hts (.fieldLink "RegistryLog$Numbers" 15 "RegistryLog$Numbers" "count" "I") (in_2 (List.mem_of_getElem? (i := 239) rfl) rfl)) (fun _ h9 => h9) rfl d_U_size_1 ?_
  exact W.iret hx hb hr (fun t9 ht hW => ⟨_, rfl, rfl, ht⟩) (fun q h => by cases h) d_U_size_4 hlk
set_option maxHeartbeats 4000000 in
set_option maxRecDepth 100000 in
/-- Ledger.size() -/
theorem c_L_size (l : Launch) (g : gG) (H : Heap) (a w n : Nat) (k : Int32) (f0 : ob g H a 1 [.ref w, .ref n, .int k]) : Met l y_L_size (wC y_L_size b_L_size 1 (some .int)) (rmk 0 0 0 0) (pC g H [.ref a]) (qP H (fun v => v = some (.int k))) 0 0 no_ := by
  refine mB (by decide) (Nat.le_of_ble_eq_true rfl) ?_
  intro p e s m below meth c ls C0 hH hZ hnm hl
  have C0 : cF g p s m _ meth c b_L_size 1 "RegistryLog$Ledger" (some .int) := C0
  obtain ⟨hx, hb, hml, hown, hts, hr, hlk, hK⟩ := id C0
  subst hH
  have hl : lv_has ls 1 [(0, .ref a)] := hl
  refine lv_aload_n hx hb d_L_size_0 rfl (lv_at hl 0 rfl) ?_
  refine va_get (D := g.1) (ci := 1) (C := R_L) (T := F_L) (N := 3) hx hb hts i_L hown hK.1 f0 0 rfl rfl 2 (by decide) (hts (.fieldLink "RegistryLog$Ledger" 31 "RegistryLog$Ledger" "count" "I") (in_2 (List.mem_of_getElem? (i := 223) rfl) rfl)) (fun _ h9 => h9) rfl d_L_size_1 ?_
  exact W.iret hx hb hr (fun t9 ht hW => ⟨_, rfl, rfl, ht⟩) (fun q h => by cases h) d_L_size_4 hlk
set_option maxHeartbeats 4000000 in
set_option maxRecDepth 100000 in
/-- isPerson -/
theorem c_X_isPerson (l : Launch) (g : gG) (H : Heap) (i : Int32) : Met l y_X_isPerson (wC y_X_isPerson b_X_isPerson 1 (some .boolean)) (rmk 0 0 0 0) (pC g H [.int i]) (qP H (fun v => v = some (.int (bI (decide (0 ≤ i ∧ i < 8)))))) 0 0 no_ := by
  refine mB (by decide) (Nat.le_of_ble_eq_true rfl) ?_
  intro p e s m below meth c ls C0 hH hZ hnm hl
  have C0 : cF g p s m _ meth c b_X_isPerson 1 "RegistryLog" (some .boolean) := C0
  obtain ⟨hx, hb, hml, hown, hts, hr, hlk, hK⟩ := id C0
  subst hH
  have hl : lv_has ls 1 [(0, .int i)] := hl
  refine lv_iload_n hx hb d_X_isPerson_0 rfl (lv_at hl 0 rfl) ?_
  refine lv_if_lt (tgt := 14) hx hb d_X_isPerson_1 (by decide) (fun c1 => ?_) (fun c1 => ?_)
  · skip
    refine lv_iconst (v := 0) hx hb d_X_isPerson_14 (by decide) ?_
    exact W.zret hx hb hr rfl (fun t9 ht hW => ⟨_, rfl, by rw [decide_eq_false (fun z => absurd z.1 (Int32.not_le.mpr c1))]; rfl, ht⟩) (fun q h => by cases h) d_X_isPerson_15 hlk
  · skip
    refine lv_iload_n hx hb d_X_isPerson_4 rfl (lv_at hl 0 rfl) ?_
    refine lv_bipush (v := 8) hx hb d_X_isPerson_5 (by decide) ?_
    refine lv_icmp_ge (tgt := 14) hx hb d_X_isPerson_7 (by decide) (fun c7 => ?_) (fun c7 => ?_)
    · skip
      refine lv_iconst (v := 0) hx hb d_X_isPerson_14 (by decide) ?_
      exact W.zret hx hb hr rfl (fun t9 ht hW => ⟨_, rfl, by rw [decide_eq_false (fun z => absurd z.2 (Int32.not_lt.mpr c7))]; rfl, ht⟩) (fun q h => by cases h) d_X_isPerson_15 hlk
    · skip
      refine lv_iconst (v := 1) hx hb d_X_isPerson_10 (by decide) ?_
      refine lv_goto (tgt := 15) hx hb d_X_isPerson_11 (by decide) ?_
      exact W.zret hx hb hr rfl (fun t9 ht hW => ⟨_, rfl, by rw [decide_eq_true ⟨Int32.not_lt.mp c1, Int32.not_le.mp c7⟩]; rfl, ht⟩) (fun q h => by cases h) d_X_isPerson_15 hlk
set_option maxHeartbeats 4000000 in
set_option maxRecDepth 100000 in
/-- isVersion -/
theorem c_X_isVersion (l : Launch) (g : gG) (H : Heap) (i : Int32) : Met l y_X_isVersion (wC y_X_isVersion b_X_isVersion 1 (some .boolean)) (rmk 0 0 0 0) (pC g H [.int i]) (qP H (fun v => v = some (.int (bI (decide (0 ≤ i ∧ i < 1000)))))) 0 0 no_ := by
  refine mB (by decide) (Nat.le_of_ble_eq_true rfl) ?_
  intro p e s m below meth c ls C0 hH hZ hnm hl
  have C0 : cF g p s m _ meth c b_X_isVersion 1 "RegistryLog" (some .boolean) := C0
  obtain ⟨hx, hb, hml, hown, hts, hr, hlk, hK⟩ := id C0
  subst hH
  have hl : lv_has ls 1 [(0, .int i)] := hl
  refine lv_iload_n hx hb d_X_isVersion_0 rfl (lv_at hl 0 rfl) ?_
  refine lv_if_lt (tgt := 15) hx hb d_X_isVersion_1 (by decide) (fun c1 => ?_) (fun c1 => ?_)
  · skip
    refine lv_iconst (v := 0) hx hb d_X_isVersion_15 (by decide) ?_
    exact W.zret hx hb hr rfl (fun t9 ht hW => ⟨_, rfl, by rw [decide_eq_false (fun z => absurd z.1 (Int32.not_le.mpr c1))]; rfl, ht⟩) (fun q h => by cases h) d_X_isVersion_16 hlk
  · skip
    refine lv_iload_n hx hb d_X_isVersion_4 rfl (lv_at hl 0 rfl) ?_
    refine lv_sipush (v := 1000) hx hb d_X_isVersion_5 (by decide) ?_
    refine lv_icmp_ge (tgt := 15) hx hb d_X_isVersion_8 (by decide) (fun c8 => ?_) (fun c8 => ?_)
    · skip
      refine lv_iconst (v := 0) hx hb d_X_isVersion_15 (by decide) ?_
      exact W.zret hx hb hr rfl (fun t9 ht hW => ⟨_, rfl, by rw [decide_eq_false (fun z => absurd z.2 (Int32.not_lt.mpr c8))]; rfl, ht⟩) (fun q h => by cases h) d_X_isVersion_16 hlk
    · skip
      refine lv_iconst (v := 1) hx hb d_X_isVersion_11 (by decide) ?_
      refine lv_goto (tgt := 16) hx hb d_X_isVersion_12 (by decide) ?_
      exact W.zret hx hb hr rfl (fun t9 ht hW => ⟨_, rfl, by rw [decide_eq_true ⟨Int32.not_lt.mp c1, Int32.not_le.mp c8⟩]; rfl, ht⟩) (fun q h => by cases h) d_X_isVersion_16 hlk
set_option maxHeartbeats 4000000 in
set_option maxRecDepth 100000 in
/-- isMirror -/
theorem c_X_isMirror (l : Launch) (g : gG) (H : Heap) (i : Int32) : Met l y_X_isMirror (wC y_X_isMirror b_X_isMirror 1 (some .boolean)) (rmk 0 0 0 0) (pC g H [.int i]) (qP H (fun v => v = some (.int (bI (decide (0 ≤ i ∧ i < 4)))))) 0 0 no_ := by
  refine mB (by decide) (Nat.le_of_ble_eq_true rfl) ?_
  intro p e s m below meth c ls C0 hH hZ hnm hl
  have C0 : cF g p s m _ meth c b_X_isMirror 1 "RegistryLog" (some .boolean) := C0
  obtain ⟨hx, hb, hml, hown, hts, hr, hlk, hK⟩ := id C0
  subst hH
  have hl : lv_has ls 1 [(0, .int i)] := hl
  refine lv_iload_n hx hb d_X_isMirror_0 rfl (lv_at hl 0 rfl) ?_
  refine lv_if_lt (tgt := 13) hx hb d_X_isMirror_1 (by decide) (fun c1 => ?_) (fun c1 => ?_)
  · skip
    refine lv_iconst (v := 0) hx hb d_X_isMirror_13 (by decide) ?_
    exact W.zret hx hb hr rfl (fun t9 ht hW => ⟨_, rfl, by rw [decide_eq_false (fun z => absurd z.1 (Int32.not_le.mpr c1))]; rfl, ht⟩) (fun q h => by cases h) d_X_isMirror_14 hlk
  · skip
    refine lv_iload_n hx hb d_X_isMirror_4 rfl (lv_at hl 0 rfl) ?_
    refine lv_iconst (v := 4) hx hb d_X_isMirror_5 (by decide) ?_
    refine lv_icmp_ge (tgt := 13) hx hb d_X_isMirror_6 (by decide) (fun c6 => ?_) (fun c6 => ?_)
    · skip
      refine lv_iconst (v := 0) hx hb d_X_isMirror_13 (by decide) ?_
      exact W.zret hx hb hr rfl (fun t9 ht hW => ⟨_, rfl, by rw [decide_eq_false (fun z => absurd z.2 (Int32.not_lt.mpr c6))]; rfl, ht⟩) (fun q h => by cases h) d_X_isMirror_14 hlk
    · skip
      refine lv_iconst (v := 1) hx hb d_X_isMirror_9 (by decide) ?_
      refine lv_goto (tgt := 14) hx hb d_X_isMirror_10 (by decide) ?_
      exact W.zret hx hb hr rfl (fun t9 ht hW => ⟨_, rfl, by rw [decide_eq_true ⟨Int32.not_lt.mp c1, Int32.not_le.mp c6⟩]; rfl, ht⟩) (fun q h => by cases h) d_X_isMirror_14 hlk
set_option maxHeartbeats 4000000 in
set_option maxRecDepth 100000 in
/-- asNumber -/
theorem c_X_asNumber (l : Launch) (g : gG) (H : Heap) (b : Bool) : Met l y_X_asNumber (wC y_X_asNumber b_X_asNumber 1 (some .int)) (rmk 0 0 0 0) (pC g H [.int (bI b)]) (qP H (fun v => v = some (.int (bI b)))) 0 0 no_ := by
  refine mB (by decide) (Nat.le_of_ble_eq_true rfl) ?_
  intro p e s m below meth c ls C0 hH hZ hnm hl
  have C0 : cF g p s m _ meth c b_X_asNumber 1 "RegistryLog" (some .int) := C0
  obtain ⟨hx, hb, hml, hown, hts, hr, hlk, hK⟩ := id C0
  subst hH
  have hl : lv_has ls 1 [(0, .int (bI b))] := hl
  refine lv_iload_n hx hb d_X_asNumber_0 rfl (lv_at hl 0 rfl) ?_
  refine lv_if_eq (tgt := 8) hx hb d_X_asNumber_1 (by decide) (fun c1 => ?_) (fun c1 => ?_)
  · skip
    refine lv_iconst (v := 0) hx hb d_X_asNumber_8 (by decide) ?_
    exact W.iret hx hb hr (fun t9 ht hW => ⟨_, rfl, by rw [bI_z.mp c1]; rfl, ht⟩) (fun q h => by cases h) d_X_asNumber_9 hlk
  · skip
    refine lv_iconst (v := 1) hx hb d_X_asNumber_4 (by decide) ?_
    refine lv_goto (tgt := 9) hx hb d_X_asNumber_5 (by decide) ?_
    exact W.iret hx hb hr (fun t9 ht hW => ⟨_, rfl, by rw [bI_n.mp c1]; rfl, ht⟩) (fun q h => by cases h) d_X_asNumber_9 hlk
set_option maxHeartbeats 4000000 in
set_option maxRecDepth 100000 in
/-- Ledger.at(i): the row at i, or no row -/
theorem c_L_at (l : Launch) (g : gG) (H : Heap) (a : Nat) (rows : List Rw) (i : Int32) (h : isL g H a rows) : Met l y_L_at (wC y_L_at b_L_at 2 (some (.object "RegistryLog$Row"))) (rmk 0 0 0 0) (pC g H [.ref a, .int i]) (qP H (fun v => ∃ r, v = some (.ref r) ∧ isR g H r (atS rows i))) 0 0 no_ := by
  refine mB (by decide) (Nat.le_of_ble_eq_true rfl) ?_
  intro p e s m below meth c ls C0 hH hZ hnm hl
  have C0 : cF g p s m _ meth c b_L_at 2 "RegistryLog$Ledger" (some (.object "RegistryLog$Row")) := C0
  obtain ⟨hx, hb, hml, hown, hts, hr, hlk, hK⟩ := id C0
  subst hH
  have hl : lv_has ls 2 [(0, .ref a), (1, .int i)] := hl
  obtain ⟨w, n, f, f0, f1, hn9, hlen, hrs⟩ := h
  refine lv_iload_n hx hb d_L_at_0 rfl (lv_at hl 1 rfl) ?_
  refine lv_if_lt (tgt := 21) hx hb d_L_at_1 (by decide) (fun c1 => ?_) (fun c1 => ?_)
  · skip
    refine lv_aload_n hx hb d_L_at_21 rfl (lv_at hl 0 rfl) ?_
    refine va_get (D := g.1) (ci := 1) (C := R_L) (T := F_L) (N := 3) hx hb hts i_L hown hK.1 f0 0 rfl rfl 1 (by decide) (hts (.fieldLink "RegistryLog$Ledger" 21 "RegistryLog$Ledger" "noRow" "LRegistryLog$Row;") (in_2 (List.mem_of_getElem? (i := 222) rfl) rfl)) (fun _ h9 => h9) rfl d_L_at_22 ?_
    exact W.aret hx hb hr (Or.inl ⟨_, rfl⟩) (Or.inr ⟨_, rfl⟩) (fun t9 ht hW => ⟨_, rfl, ⟨n, rfl, by rw [atS, if_neg (fun z => absurd z.1 (Int32.not_le.mpr c1))]; exact hn9⟩, ht⟩) (fun q h => by cases h) d_L_at_25 hlk
  · skip
    refine lv_iload_n hx hb d_L_at_4 rfl (lv_at hl 1 rfl) ?_
    refine lv_aload_n hx hb d_L_at_5 rfl (lv_at hl 0 rfl) ?_
    refine va_get (D := g.1) (ci := 1) (C := R_L) (T := F_L) (N := 3) hx hb hts i_L hown hK.1 f0 0 rfl rfl 2 (by decide) (hts (.fieldLink "RegistryLog$Ledger" 31 "RegistryLog$Ledger" "count" "I") (in_2 (List.mem_of_getElem? (i := 223) rfl) rfl)) (fun _ h9 => h9) rfl d_L_at_6 ?_
    refine lv_icmp_ge (tgt := 21) hx hb d_L_at_9 (by decide) (fun c9 => ?_) (fun c9 => ?_)
    · skip
      refine lv_aload_n hx hb d_L_at_21 rfl (lv_at hl 0 rfl) ?_
      refine va_get (D := g.1) (ci := 1) (C := R_L) (T := F_L) (N := 3) hx hb hts i_L hown hK.1 f0 0 rfl rfl 1 (by decide) (hts (.fieldLink "RegistryLog$Ledger" 21 "RegistryLog$Ledger" "noRow" "LRegistryLog$Row;") (in_2 (List.mem_of_getElem? (i := 222) rfl) rfl)) (fun _ h9 => h9) rfl d_L_at_22 ?_
      exact W.aret hx hb hr (Or.inl ⟨_, rfl⟩) (Or.inr ⟨_, rfl⟩) (fun t9 ht hW => ⟨_, rfl, ⟨n, rfl, by rw [atS, if_neg (fun z => absurd z.2 (Int32.not_lt.mpr c9))]; exact hn9⟩, ht⟩) (fun q h => by cases h) d_L_at_25 hlk
    · skip
      refine lv_aload_n hx hb d_L_at_12 rfl (lv_at hl 0 rfl) ?_
      refine va_get (D := g.1) (ci := 1) (C := R_L) (T := F_L) (N := 3) hx hb hts i_L hown hK.1 f0 0 rfl rfl 0 (by decide) (hts (.fieldLink "RegistryLog$Ledger" 27 "RegistryLog$Ledger" "written" "[LRegistryLog$Row;") (in_2 (List.mem_of_getElem? (i := 221) rfl) rfl)) (fun _ h9 => h9) rfl d_L_at_13 ?_
      refine lv_iload_n hx hb d_L_at_16 rfl (lv_at hl 1 rfl) ?_
      have hin : 0 ≤ i ∧ i < nI rows.length := ⟨Int32.not_lt.mp c1, Int32.not_le.mp c9⟩
      obtain ⟨k, hk, ek⟩ : ∃ k : Nat, k < rows.length ∧ i = nI k := by
        obtain ⟨k, h1, h2⟩ := nI_of c1
        subst h2
        exact ⟨k, (nI_ltI h1 (by omega)).mp hin.2, rfl⟩
      subst ek
      obtain ⟨r, hf, hr9⟩ := hrs k hk
      refine va_aldq (D := g.1) hx hb hK.1 f1 0 2 rfl rfl (vp_in_nI (by omega) (by omega)) d_L_at_17 ?_
      rw [nI_clamp (by omega), hf]
      refine W.eq (g2 := F0 m 18 ls [.ref r]) rfl ?_
      refine lv_goto (tgt := 25) hx hb d_L_at_18 (by decide) ?_
      exact W.aret hx hb hr (Or.inl ⟨_, rfl⟩) (Or.inr ⟨_, rfl⟩) (fun t9 ht hW => ⟨_, rfl, ⟨r, rfl, by rw [atS_in hk hlen]; exact hr9⟩, ht⟩) (fun q h => by cases h) d_L_at_25 hlk
set_option maxHeartbeats 4000000 in
set_option maxRecDepth 100000 in
/-- Numbers.get(i) -/
theorem c_U_get (l : Launch) (g : gG) (H : Heap) (a v : Nat) (f : Nat → Int64) (k q : Nat) (i : Int32) (h : isU g H a v f k q) : Met l y_U_get (wC y_U_get b_U_get 2 (some .long)) (rmk 0 0 0 0) (pC g H [.ref a, .int i]) (qP H (fun v => v = some (.long (getS f k i)))) 0 0 no_ := by
  refine mB (by decide) (Nat.le_of_ble_eq_true rfl) ?_
  intro p e s m below meth c ls C0 hH hZ hnm hl
  have C0 : cF g p s m _ meth c b_U_get 2 "RegistryLog$Numbers" (some .long) := C0
  obtain ⟨hx, hb, hml, hown, hts, hr, hlk, hK⟩ := id C0
  subst hH
  have hl : lv_has ls 2 [(0, .ref a), (1, .int i)] := hl
  obtain ⟨f0, f1, hk16, hq⟩ := h
  refine lv_iload_n hx hb d_U_get_0 rfl (lv_at hl 1 rfl) ?_
  refine lv_if_lt (tgt := 21) hx hb d_U_get_1 (by decide) (fun c1 => ?_) (fun c1 => ?_)
  · skip
    refine lv_lconst (v := 0) hx hb d_U_get_21 (by decide) ?_
    exact W.lret hx hb hr (fun t9 ht hW => ⟨_, rfl, by rw [getS, if_neg (fun z => absurd z.1 (Int32.not_le.mpr c1))], ht⟩) (fun q h => by cases h) d_U_get_22 hlk
  · skip
    refine lv_iload_n hx hb d_U_get_4 rfl (lv_at hl 1 rfl) ?_
    refine lv_aload_n hx hb d_U_get_5 rfl (lv_at hl 0 rfl) ?_
    refine va_get (D := g.1) (ci := 3) (C := R_U) (T := F_U) (N := 3) hx hb hts i_U hown hK.1 f0 0 rfl rfl 1 (by decide) (hts (.fieldLink "RegistryLog$Numbers" 15 "RegistryLog$Numbers" "count" "I") (in_2 (List.mem_of_getElem? (i := 239) rfl) rfl)) (fun _ h9 => h9) rfl d_U_get_6 ?_
    refine lv_icmp_ge (tgt := 21) hx hb d_U_get_9 (by decide) (fun c9 => ?_) (fun c9 => ?_)
    · skip
      refine lv_lconst (v := 0) hx hb d_U_get_21 (by decide) ?_
      exact W.lret hx hb hr (fun t9 ht hW => ⟨_, rfl, by rw [getS, if_neg (fun z => absurd z.2 (Int32.not_lt.mpr c9))], ht⟩) (fun q h => by cases h) d_U_get_22 hlk
    · skip
      refine lv_aload_n hx hb d_U_get_12 rfl (lv_at hl 0 rfl) ?_
      refine va_get (D := g.1) (ci := 3) (C := R_U) (T := F_U) (N := 3) hx hb hts i_U hown hK.1 f0 0 rfl rfl 0 (by decide) (hts (.fieldLink "RegistryLog$Numbers" 9 "RegistryLog$Numbers" "values" "[J") (in_2 (List.mem_of_getElem? (i := 238) rfl) rfl)) (fun _ h9 => h9) rfl d_U_get_13 ?_
      refine lv_iload_n hx hb d_U_get_16 rfl (lv_at hl 1 rfl) ?_
      have hin : 0 ≤ i ∧ i < nI k := ⟨Int32.not_lt.mp c1, Int32.not_le.mp c9⟩
      have hv : vp_in i 16 := by
        obtain ⟨j, h1, h2⟩ := nI_of c1
        subst h2
        exact vp_in_nI (by have := (nI_ltI h1 (by omega)).mp hin.2; omega) (by omega)
      refine va_lald (D := g.1) hx hb hK.1 f1 0 1 rfl rfl hv d_U_get_17 ?_
      refine lv_goto (tgt := 22) hx hb d_U_get_18 (by decide) ?_
      exact W.lret hx hb hr (fun t9 ht hW => ⟨_, rfl, by rw [getS, if_pos hin], ht⟩) (fun q h => by cases h) d_U_get_22 hlk
set_option maxHeartbeats 4000000 in
set_option maxRecDepth 100000 in
/-- Numbers.isReadToTheEnd() -/
theorem c_U_isReadToTheEnd (l : Launch) (g : gG) (H : Heap) (a v : Nat) (f : Nat → Int64) (k q : Nat) (h : isU g H a v f k q) : Met l y_U_isReadToTheEnd (wC y_U_isReadToTheEnd b_U_isReadToTheEnd 1 (some .boolean)) (rmk 0 0 0 0) (pC g H [.ref a]) (qP H (fun v => v = some (.int (bI (decide (q = k)))))) 0 0 no_ := by
  refine mB (by decide) (Nat.le_of_ble_eq_true rfl) ?_
  intro p e s m below meth c ls C0 hH hZ hnm hl
  have C0 : cF g p s m _ meth c b_U_isReadToTheEnd 1 "RegistryLog$Numbers" (some .boolean) := C0
  obtain ⟨hx, hb, hml, hown, hts, hr, hlk, hK⟩ := id C0
  subst hH
  have hl : lv_has ls 1 [(0, .ref a)] := hl
  obtain ⟨f0, f1, hk16, hq⟩ := h
  refine lv_aload_n hx hb d_U_isReadToTheEnd_0 rfl (lv_at hl 0 rfl) ?_
  refine va_get (D := g.1) (ci := 3) (C := R_U) (T := F_U) (N := 3) hx hb hts i_U hown hK.1 f0 0 rfl rfl 2 (by decide) (hts (.fieldLink "RegistryLog$Numbers" 19 "RegistryLog$Numbers" "asked" "I") (in_3 (List.mem_of_getElem? (i := 0) rfl) rfl)) (fun _ h9 => h9) rfl d_U_isReadToTheEnd_1 ?_
  refine lv_aload_n hx hb d_U_isReadToTheEnd_4 rfl (lv_at hl 0 rfl) ?_
  refine va_get (D := g.1) (ci := 3) (C := R_U) (T := F_U) (N := 3) hx hb hts i_U hown hK.1 f0 0 rfl rfl 1 (by decide) (hts (.fieldLink "RegistryLog$Numbers" 15 "RegistryLog$Numbers" "count" "I") (in_2 (List.mem_of_getElem? (i := 239) rfl) rfl)) (fun _ h9 => h9) rfl d_U_isReadToTheEnd_5 ?_
  refine lv_icmp_ne (tgt := 15) hx hb d_U_isReadToTheEnd_8 (by decide) (fun c8 => ?_) (fun c8 => ?_)
  · skip
    refine lv_iconst (v := 0) hx hb d_U_isReadToTheEnd_15 (by decide) ?_
    exact W.zret hx hb hr rfl (fun t9 ht hW => ⟨_, rfl, by rw [decide_eq_false (fun z => c8 (by rw [z]))]; rfl, ht⟩) (fun q h => by cases h) d_U_isReadToTheEnd_16 hlk
  · skip
    refine lv_iconst (v := 1) hx hb d_U_isReadToTheEnd_11 (by decide) ?_
    refine lv_goto (tgt := 16) hx hb d_U_isReadToTheEnd_12 (by decide) ?_
    exact W.zret hx hb hr rfl (fun t9 ht hW => ⟨_, rfl, by rw [decide_eq_true ((nI_eq (by omega) (by omega)).mp c8)]; rfl, ht⟩) (fun q h => by cases h) d_U_isReadToTheEnd_16 hlk
theorem k_L_founderOf_2 : kV "RegistryLog$Ledger" 35 "RegistryLog$Ledger" y_L_at b_L_at 2 (some (.object "RegistryLog$Row")) 1 := ⟨(in_3 (List.mem_of_getElem? (i := 236) rfl) rfl), (in_3 (List.mem_of_getElem? (i := 47) rfl) rfl), (in_3 (List.mem_of_getElem? (i := 48) rfl) rfl), (in_1 (List.mem_of_getElem? (i := 6) rfl) rfl), (in_3 (List.mem_of_getElem? (i := 49) rfl) rfl), ⟨by decide, by decide, by decide +kernel⟩⟩
theorem isL_recv {g : gG} {H : Heap} {s : State} {a : Nat} {rows : List Rw} (hK : kK g s) (h : isL g H a rows) : ∃ cell : Cell, H[a]? = some cell ∧ cell.vm.isStatics = false ∧ s.vm.findClass "RegistryLog$Ledger" = some cell.cls := by
  obtain ⟨w, n, f, f0, -⟩ := h
  exact ob_recv (ci := 1) (q := (R_L, F_L, 3)) hK f0 rfl
set_option maxHeartbeats 4000000 in
set_option maxRecDepth 100000 in
/-- Ledger.founderOf(i) -/
theorem c_L_founderOf (l : Launch) (g : gG) (H : Heap) (a : Nat) (rows : List Rw) (i : Int32) (h : isL g H a rows) : Met l y_L_founderOf (wC y_L_founderOf b_L_founderOf 2 (some .int)) (rmk 1 0 0 21) (pC g H [.ref a, .int i]) (qP H (fun v => v = some (.int (rp (atS rows i))))) 0 0 no_ := by
  refine mB (by decide) (Nat.le_of_ble_eq_true rfl) ?_
  intro p e s m below meth c ls C0 hH hZ hnm hl
  have C0 : cF g p s m _ meth c b_L_founderOf 2 "RegistryLog$Ledger" (some .int) := C0
  obtain ⟨hx, hb, hml, hown, hts, hr, hlk, hK⟩ := id C0
  subst hH
  have hl : lv_has ls 2 [(0, .ref a), (1, .int i)] := hl
  refine lv_aload_n hx hb d_L_founderOf_0 rfl (lv_at hl 0 rfl) ?_
  refine lv_iload_n hx hb d_L_founderOf_1 rfl (lv_at hl 1 rfl) ?_
  refine aP (rV (As := [.int i]) (rest := []) C0 (c_L_at l g s.heap a rows i h) hZ k_L_founderOf_2 rfl rfl ⟨Nat.le_of_ble_eq_true rfl, Nat.le_of_ble_eq_true rfl⟩ (isL_recv hK h) rfl hl.1 rfl (Nat.le_of_ble_eq_true rfl) d_L_founderOf_2 ⟨Nat.zero_le _, Nat.zero_le _⟩) ?_
  rintro v ⟨r, rfl, hr9⟩
  obtain ⟨R9, eR⟩ : ∃ R9, R9 = atS rows i := ⟨_, rfl⟩
  rw [← eR] at hr9
  refine W.eq (g2 := F0 m 5 ls [.ref r]) rfl ?_
  obtain ⟨na, nb, hr90, hr9n, hr9a⟩ := hr9
  refine va_get (D := g.1) (ci := 4) (C := R_R) (T := F_R) (N := 8) hx hb hts i_R hown hK.1 hr90 0 rfl rfl 1 (by decide) (hts (.fieldLink "RegistryLog$Ledger" 63 "RegistryLog$Row" "person" "I") (in_2 (List.mem_of_getElem? (i := 186) rfl) rfl)) (fun _ h9 => h9) rfl d_L_founderOf_5 ?_
  exact W.iret hx hb hr (fun t9 ht hW => ⟨_, rfl, by rw [← eR], ht⟩) (fun q h => by cases h) d_L_founderOf_8 hlk
end
section
theorem s_len {l : Launch} {g : gG} {H : Heap} {a : Nat} {t : List Nat} (h : isS g H a t) : Met l y_S_length (wC y_S_length b_S_length 1 (some .int)) (rmk 1 0 0 20) (pC g H [.ref a]) (qP H (fun v => v = some (.int (nI t.length)))) 0 0 no_ := by
  obtain ⟨v, f0, f1, -, -⟩ := h
  exact c_S_length l g H a v _ _ f0 f1
theorem s_ch {l : Launch} {g : gG} {H : Heap} {a j : Nat} {t : List Nat} (h : isS g H a t) (hj : j < t.length) : Met l y_S_charAt (wC y_S_charAt b_S_charAt 2 (some .char)) (rmk 3 0 0 64) (pC g H [.ref a, .int (nI j)]) (qP H (fun v => v = some (.int (nI (t.getD j 0))))) 0 0 no_ := by
  obtain ⟨v, f0, f1, hc, hn⟩ := h
  have hj2 : (nI j).toNatClampNeg = j := nI_clamp (by omega)
  have q := ch_c _ (ch_lt hc j)
  have z := c_S_charAt l g H a v _ _ (nI j) f0 f1 (vp_in_nI hj (by omega)) (by omega) (by rw [hj2]; exact q.1) (by rw [hj2]; exact q.2)
  rw [hj2] at z
  exact z
theorem s_eq {l : Launch} {g : gG} {H : Heap} {a b : Nat} {t u : List Nat} (h : isS g H a t) (h2 : isS g H b u) : Met l y_S_equals (wC y_S_equals b_S_equals 3 (some .boolean)) (rmk 1 0 0 22) (pC g H [.ref a, .ref b]) (qP H (fun v => v = some (.int (bI (decide (t = u)))))) 0 0 no_ := by
  obtain ⟨v, f0, f1, hc, hn⟩ := h
  obtain ⟨v2, k0, k1, kc, kn⟩ := h2
  exact c_S_equals l g H a b v v2 t u f0 k0 f1 k1 hc kc hn kn
theorem isS_recv {g : gG} {H : Heap} {s : State} {a : Nat} {t : List Nat} (hK : kK g s) (h : isS g H a t) : ∃ cell : Cell, H[a]? = some cell ∧ cell.vm.isStatics = false ∧ s.vm.findClass "java/lang/String" = some cell.cls := by
  obtain ⟨v, f0, -⟩ := h
  exact s_recv hK f0
theorem isN_recv {g : gG} {H : Heap} {s : State} {a : Nat} {t : List Nat} (hK : kK g s) (h : isN g H a t) : ∃ cell : Cell, H[a]? = some cell ∧ cell.vm.isStatics = false ∧ s.vm.findClass "RegistryLog$Name" = some cell.cls := by
  obtain ⟨v, u, f0, -⟩ := h
  exact ob_recv (ci := 2) (q := (R_N, F_N, 2)) hK f0 rfl
/-! what the loops compute -/
def cbS : List Nat → List Nat → Nat
  | x :: a, y :: b => if x = y then cbS a b + 1 else 0
  | _, _ => 0
def nearS (t u : List Nat) : Bool := decide ((foldT t).length ≤ (foldT u).length + 1 ∧ (foldT u).length ≤ (foldT t).length + 1 ∧ max (foldT t).length (foldT u).length ≤ cbS (foldT t) (foldT u) + cbS (foldT t).reverse (foldT u).reverse + 1)
def oS (t : List Nat) : List Rw → Int32 → Int32
  | [], o => o
  | r :: l, o => if rk r = 3 ∧ rn r = t then -1 else oS t l (if ra r = t then ro r else o)
def hrS (o q : Int32) : List Rw → Bool → Bool
  | [], b => b
  | r :: l, b => hrS o q l (if rk r = 2 ∧ ro r = o ∧ r2 r = q then decide (r3 r = 1) else b)
def pubS (o v : Int32) : List Rw → Nat → Int32
  | [], _ => -1
  | r :: l, i => if rk r = 0 ∧ ro r = o ∧ r2 r = v then nI i else pubS o v l (i + 1)
def ynS (o v : Int32) : List Rw → Bool → Bool
  | [], b => b
  | r :: l, b => ynS o v l (if rk r = 1 ∧ ro r = o ∧ r2 r = v then decide (r3 r = 1) else b)
def freeS (t : List Nat) (mine : Int32) (all : List Rw) : List Rw → Bool
  | [] => true
  | r :: l => if ra r = t then false else if ro r ≠ mine ∧ nearS (ra r) t = true ∧ oS (ra r) all (-1) ≠ -1 then false else freeS t mine all l
theorem dropR {rows : List Rw} {i : Nat} {R9 : Rw} (h : i < rows.length) (e : R9 = rows.getD i noRw) : rows.drop i = R9 :: rows.drop (i + 1) := by
  rw [List.drop_eq_getElem_cons h, e, List.getD_eq_getElem?_getD, List.getElem?_eq_getElem h, Option.getD_some]

theorem k_N_isSame_8 : kV "RegistryLog$Name" 32 "java/lang/String" y_S_equals b_S_equals 3 (some .boolean) 1 := ⟨(in_4 (List.mem_of_getElem? (i := 1) rfl) rfl), (in_4 (List.mem_of_getElem? (i := 2) rfl) rfl), (in_4 (List.mem_of_getElem? (i := 3) rfl) rfl), (in_1 (List.mem_of_getElem? (i := 4) rfl) rfl), (in_4 (List.mem_of_getElem? (i := 4) rfl) rfl), ⟨by decide, by decide, by decide +kernel⟩⟩
set_option maxHeartbeats 4000000 in
set_option maxRecDepth 100000 in
/-- Name.isSame -/
theorem c_N_isSame (l : Launch) (g : gG) (H : Heap) (a b : Nat) (t u : List Nat) (h : isN g H a t) (h2 : isN g H b u) : Met l y_N_isSame (wC y_N_isSame b_N_isSame 2 (some .boolean)) (rmk 2 0 0 44) (pC g H [.ref a, .ref b]) (qP H (fun v => v = some (.int (bI (decide (t = u)))))) 0 0 no_ := by
  refine mB (by decide) (Nat.le_of_ble_eq_true rfl) ?_
  intro p e s m below meth c ls C0 hH hZ hnm hl
  have C0 : cF g p s m _ meth c b_N_isSame 2 "RegistryLog$Name" (some .boolean) := C0
  obtain ⟨hx, hb, hml, hown, hts, hr, hlk, hK⟩ := id C0
  subst hH
  have hl : lv_has ls 2 [(0, .ref a), (1, .ref b)] := hl
  obtain ⟨sa, fa, n0, n1, n2⟩ := h
  obtain ⟨sb, fb, k0, k1, k2⟩ := h2
  refine lv_aload_n hx hb d_N_isSame_0 rfl (lv_at hl 0 rfl) ?_
  refine va_get (D := g.1) (ci := 2) (C := R_N) (T := F_N) (N := 2) hx hb hts i_N hown hK.1 n0 0 rfl rfl 0 (by decide) (hts (.fieldLink "RegistryLog$Name" 9 "RegistryLog$Name" "typed" "Ljava/lang/String;") (in_2 (List.mem_of_getElem? (i := 157) rfl) rfl)) (fun _ h9 => h9) rfl d_N_isSame_1 ?_
  refine lv_aload_n hx hb d_N_isSame_4 rfl (lv_at hl 1 rfl) ?_
  refine va_get (D := g.1) (ci := 2) (C := R_N) (T := F_N) (N := 2) hx hb hts i_N hown hK.1 k0 0 rfl rfl 0 (by decide) (hts (.fieldLink "RegistryLog$Name" 9 "RegistryLog$Name" "typed" "Ljava/lang/String;") (in_2 (List.mem_of_getElem? (i := 157) rfl) rfl)) (fun _ h9 => h9) rfl d_N_isSame_5 ?_
  refine aP (rV (As := [.ref sb]) (rest := []) C0 (s_eq n1 k1) hZ k_N_isSame_8 rfl rfl ⟨Nat.le_of_ble_eq_true rfl, Nat.le_of_ble_eq_true rfl⟩ (isS_recv hK n1) rfl hl.1 rfl (Nat.le_of_ble_eq_true rfl) d_N_isSame_8 ⟨Nat.zero_le _, Nat.zero_le _⟩) ?_
  intro v hv; subst hv
  refine W.eq (g2 := F0 m 11 ls [.int (bI (decide (t = u)))]) rfl ?_
  exact W.zret hx hb hr (by cases decide (t = u) <;> rfl) (fun t9 ht hW => ⟨_, rfl, rfl, ht⟩) (fun q h => by cases h) d_N_isSame_11 hlk
theorem k_L_originOf_14 : kV "RegistryLog$Ledger" 35 "RegistryLog$Ledger" y_L_at b_L_at 2 (some (.object "RegistryLog$Row")) 1 := ⟨(in_3 (List.mem_of_getElem? (i := 236) rfl) rfl), (in_3 (List.mem_of_getElem? (i := 47) rfl) rfl), (in_3 (List.mem_of_getElem? (i := 48) rfl) rfl), (in_1 (List.mem_of_getElem? (i := 6) rfl) rfl), (in_3 (List.mem_of_getElem? (i := 49) rfl) rfl), ⟨by decide, by decide, by decide +kernel⟩⟩
theorem k_L_originOf_34 : kV "RegistryLog$Ledger" 46 "RegistryLog$Name" y_N_isSame b_N_isSame 2 (some .boolean) 1 := ⟨(in_3 (List.mem_of_getElem? (i := 237) rfl) rfl), (in_3 (List.mem_of_getElem? (i := 238) rfl) rfl), (in_3 (List.mem_of_getElem? (i := 239) rfl) rfl), (in_1 (List.mem_of_getElem? (i := 7) rfl) rfl), (in_4 (List.mem_of_getElem? (i := 0) rfl) rfl), ⟨by decide, by decide, by decide +kernel⟩⟩
theorem k_L_originOf_48 : kV "RegistryLog$Ledger" 46 "RegistryLog$Name" y_N_isSame b_N_isSame 2 (some .boolean) 1 := ⟨(in_3 (List.mem_of_getElem? (i := 237) rfl) rfl), (in_3 (List.mem_of_getElem? (i := 238) rfl) rfl), (in_3 (List.mem_of_getElem? (i := 239) rfl) rfl), (in_1 (List.mem_of_getElem? (i := 7) rfl) rfl), (in_4 (List.mem_of_getElem? (i := 0) rfl) rfl), ⟨by decide, by decide, by decide +kernel⟩⟩
set_option maxHeartbeats 4000000 in
set_option maxRecDepth 100000 in
theorem lp_L_originOf {p : Program} {l : Launch} {e : Env} {s : State} {m : MethodId} {args : Array Value} {below : List Frame} {meth : Method} {c : Code} {g : gG} (C0 : cF g p s m args meth c b_L_originOf 5 "RegistryLog$Ledger" (some .int)) (hZ : zK g s s.heap) (a : Nat) (rows : List Rw) (h : isL g s.heap a rows) (b : Nat) (t : List Nat) (hb9 : isN g s.heap b t) (res : Int32) :
    ∀ (n i : Nat) (o : Int32), i ≤ rows.length → rows.length + 1 ≤ i + n → oS t (rows.drop i) o = res → ∀ (ls : Array Slot), lv_has ls 5 [(0, .ref a), (1, .ref b), (2, .int o), (3, .int (nI i))] → W p l e (rmk 3 0 0 65) s m args below meth c s.heap [] 0 0 (MQ below (qP s.heap (fun v => v = some (.int res))) args s 0 0 no_) (F0 m 4 ls []) := by
  obtain ⟨hx, hb, hml, hown, hts, hr, hlk, hK⟩ := id C0
  obtain ⟨w, n0, f, f0, f1, hn9, hlen, hrs⟩ := id h
  intro n
  induction n with
  | zero => intro i o h1 h2; exact absurd h2 (by omega)
  | succ n ih =>
    intro i o hi hin hres ls hl
    refine lv_iload_n hx hb d_L_originOf_4 rfl (lv_at hl 3 rfl) ?_
    refine lv_aload_n hx hb d_L_originOf_5 rfl (lv_at hl 0 rfl) ?_
    refine va_get (D := g.1) (ci := 1) (C := R_L) (T := F_L) (N := 3) hx hb hts i_L hown hK.1 f0 0 rfl rfl 2 (by decide) (hts (.fieldLink "RegistryLog$Ledger" 31 "RegistryLog$Ledger" "count" "I") (in_2 (List.mem_of_getElem? (i := 223) rfl) rfl)) (fun _ h9 => h9) rfl d_L_originOf_6 ?_
    refine lv_icmp_ge (tgt := 66) hx hb d_L_originOf_9 (by decide) (fun c9 => ?_) (fun c9 => ?_)
    · skip
      refine lv_iload_n hx hb d_L_originOf_66 rfl (lv_at hl 2 rfl) ?_
      have he : i = rows.length := by have := (nI_leI (by omega) (by omega)).mp c9; omega
      subst he
      rw [List.drop_length] at hres
      exact W.iret hx hb hr (fun t9 ht hW => ⟨_, rfl, by rw [← hres]; rfl, ht⟩) (fun q h => by cases h) d_L_originOf_67 hlk
    · skip
      have hlt : i < rows.length := by rcases Nat.lt_or_ge i rows.length with q | q; exact q; exact absurd (nI_le q (by omega)) c9
      refine lv_aload_n hx hb d_L_originOf_12 rfl (lv_at hl 0 rfl) ?_
      refine lv_iload_n hx hb d_L_originOf_13 rfl (lv_at hl 3 rfl) ?_
      refine aP (rV (As := [.int (nI i)]) (rest := []) C0 (c_L_at l g s.heap a rows (nI i) h) hZ k_L_originOf_14 rfl rfl ⟨Nat.le_of_ble_eq_true rfl, Nat.le_of_ble_eq_true rfl⟩ (isL_recv hK h) rfl hl.1 rfl (Nat.le_of_ble_eq_true rfl) d_L_originOf_14 ⟨Nat.zero_le _, Nat.zero_le _⟩) ?_
      rintro v ⟨r, rfl, hr9⟩
      rw [atS_in hlt hlen] at hr9
      obtain ⟨R9, eR⟩ : ∃ R9, R9 = rows.getD i noRw := ⟨_, rfl⟩
      rw [← eR] at hr9
      rw [dropR hlt eR] at hres
      refine W.eq (g2 := F0 m 17 ls [.ref r]) rfl ?_
      obtain ⟨na, nb, hr90, hr9n, hr9a⟩ := hr9
      refine lv_astore (lv' := [(4, .ref r), (0, .ref a), (1, .ref b), (2, .int o), (3, .int (nI i))]) hx hb d_L_originOf_17 hl (by decide) rfl (fun ls hl => ?_)
      refine lv_aload hx hb d_L_originOf_19 (lv_at hl 0 rfl) ?_
      refine va_get (D := g.1) (ci := 4) (C := R_R) (T := F_R) (N := 8) hx hb hts i_R hown hK.1 hr90 0 rfl rfl 0 (by decide) (hts (.fieldLink "RegistryLog$Ledger" 39 "RegistryLog$Row" "kind" "I") (in_2 (List.mem_of_getElem? (i := 183) rfl) rfl)) (fun _ h9 => h9) rfl d_L_originOf_21 ?_
      refine lv_iconst (v := 3) hx hb d_L_originOf_24 (by decide) ?_
      refine lv_icmp_ne (tgt := 42) hx hb d_L_originOf_25 (by decide) (fun c25 => ?_) (fun c25 => ?_)
      · skip
        refine lv_aload hx hb d_L_originOf_42 (lv_at hl 0 rfl) ?_
        refine va_get (D := g.1) (ci := 4) (C := R_R) (T := F_R) (N := 8) hx hb hts i_R hown hK.1 hr90 0 rfl rfl 3 (by decide) (hts (.fieldLink "RegistryLog$Ledger" 50 "RegistryLog$Row" "nameAfter" "LRegistryLog$Name;") (in_2 (List.mem_of_getElem? (i := 191) rfl) rfl)) (fun _ h9 => h9) rfl d_L_originOf_44 ?_
        refine lv_aload_n hx hb d_L_originOf_47 rfl (lv_at hl 2 rfl) ?_
        refine aP (rV (As := [.ref b]) (rest := []) C0 (c_N_isSame l g s.heap nb b _ t hr9a hb9) hZ k_L_originOf_48 rfl rfl ⟨Nat.le_of_ble_eq_true rfl, Nat.le_of_ble_eq_true rfl⟩ (isN_recv hK hr9a) rfl hl.1 rfl (Nat.le_of_ble_eq_true rfl) d_L_originOf_48 ⟨Nat.zero_le _, Nat.zero_le _⟩) ?_
        intro v hv; subst hv
        refine W.eq (g2 := F0 m 51 ls [.int (bI (decide (ra R9 = t)))]) rfl ?_
        refine lv_if_eq (tgt := 60) hx hb d_L_originOf_51 (by decide) (fun c51 => ?_) (fun c51 => ?_)
        · skip
          obtain ⟨x_1, ex_1⟩ : ∃ y : Int32, y = (nI i) + 1 := ⟨_, rfl⟩
          refine lv_iinc (v := x_1) (lv' := [(3, .int x_1), (4, .ref r), (0, .ref a), (1, .ref b), (2, .int o)]) hx hb d_L_originOf_60 hl (k := 4) rfl (by rw [ex_1]; rfl) (by decide) rfl (fun ls hl => ?_)
          refine lv_goto (tgt := 4) hx hb d_L_originOf_63 (by decide) ?_
          rw [ex_1, nI_1] at hl
          rw [oS, if_neg (fun z => c25 z.1)] at hres
          rw [if_neg (of_decide_eq_false (bI_z.mp c51))] at hres
          exact ih (i + 1) _ hlt (by omega) hres ls (lv_sub hl [2, 3, 4, 0] rfl)
        · skip
          refine lv_aload hx hb d_L_originOf_54 (lv_at hl 0 rfl) ?_
          refine va_get (D := g.1) (ci := 4) (C := R_R) (T := F_R) (N := 8) hx hb hts i_R hown hK.1 hr90 0 rfl rfl 6 (by decide) (hts (.fieldLink "RegistryLog$Ledger" 53 "RegistryLog$Row" "origin" "I") (in_2 (List.mem_of_getElem? (i := 199) rfl) rfl)) (fun _ h9 => h9) rfl d_L_originOf_56 ?_
          refine lv_istore_n (lv' := [(2, .int (ro R9)), (4, .ref r), (0, .ref a), (1, .ref b), (3, .int (nI i))]) hx hb d_L_originOf_59 rfl hl (by decide) rfl (fun ls hl => ?_)
          obtain ⟨x_2, ex_2⟩ : ∃ y : Int32, y = (nI i) + 1 := ⟨_, rfl⟩
          refine lv_iinc (v := x_2) (lv' := [(3, .int x_2), (2, .int (ro R9)), (4, .ref r), (0, .ref a), (1, .ref b)]) hx hb d_L_originOf_60 hl (k := 4) rfl (by rw [ex_2]; rfl) (by decide) rfl (fun ls hl => ?_)
          refine lv_goto (tgt := 4) hx hb d_L_originOf_63 (by decide) ?_
          rw [ex_2, nI_1] at hl
          rw [oS, if_neg (fun z => c25 z.1)] at hres
          rw [if_pos (of_decide_eq_true (bI_n.mp c51))] at hres
          exact ih (i + 1) _ hlt (by omega) hres ls (lv_sub hl [3, 4, 1, 0] rfl)
      · skip
        refine lv_aload hx hb d_L_originOf_28 (lv_at hl 0 rfl) ?_
        refine va_get (D := g.1) (ci := 4) (C := R_R) (T := F_R) (N := 8) hx hb hts i_R hown hK.1 hr90 0 rfl rfl 2 (by decide) (hts (.fieldLink "RegistryLog$Ledger" 42 "RegistryLog$Row" "name" "LRegistryLog$Name;") (in_2 (List.mem_of_getElem? (i := 189) rfl) rfl)) (fun _ h9 => h9) rfl d_L_originOf_30 ?_
        refine lv_aload_n hx hb d_L_originOf_33 rfl (lv_at hl 2 rfl) ?_
        refine aP (rV (As := [.ref b]) (rest := []) C0 (c_N_isSame l g s.heap na b _ t hr9n hb9) hZ k_L_originOf_34 rfl rfl ⟨Nat.le_of_ble_eq_true rfl, Nat.le_of_ble_eq_true rfl⟩ (isN_recv hK hr9n) rfl hl.1 rfl (Nat.le_of_ble_eq_true rfl) d_L_originOf_34 ⟨Nat.zero_le _, Nat.zero_le _⟩) ?_
        intro v hv; subst hv
        refine W.eq (g2 := F0 m 37 ls [.int (bI (decide (rn R9 = t)))]) rfl ?_
        refine lv_if_eq (tgt := 42) hx hb d_L_originOf_37 (by decide) (fun c37 => ?_) (fun c37 => ?_)
        · skip
          refine lv_aload hx hb d_L_originOf_42 (lv_at hl 0 rfl) ?_
          refine va_get (D := g.1) (ci := 4) (C := R_R) (T := F_R) (N := 8) hx hb hts i_R hown hK.1 hr90 0 rfl rfl 3 (by decide) (hts (.fieldLink "RegistryLog$Ledger" 50 "RegistryLog$Row" "nameAfter" "LRegistryLog$Name;") (in_2 (List.mem_of_getElem? (i := 191) rfl) rfl)) (fun _ h9 => h9) rfl d_L_originOf_44 ?_
          refine lv_aload_n hx hb d_L_originOf_47 rfl (lv_at hl 2 rfl) ?_
          refine aP (rV (As := [.ref b]) (rest := []) C0 (c_N_isSame l g s.heap nb b _ t hr9a hb9) hZ k_L_originOf_48 rfl rfl ⟨Nat.le_of_ble_eq_true rfl, Nat.le_of_ble_eq_true rfl⟩ (isN_recv hK hr9a) rfl hl.1 rfl (Nat.le_of_ble_eq_true rfl) d_L_originOf_48 ⟨Nat.zero_le _, Nat.zero_le _⟩) ?_
          intro v hv; subst hv
          refine W.eq (g2 := F0 m 51 ls [.int (bI (decide (ra R9 = t)))]) rfl ?_
          refine lv_if_eq (tgt := 60) hx hb d_L_originOf_51 (by decide) (fun c51 => ?_) (fun c51 => ?_)
          · skip
            obtain ⟨x_3, ex_3⟩ : ∃ y : Int32, y = (nI i) + 1 := ⟨_, rfl⟩
            refine lv_iinc (v := x_3) (lv' := [(3, .int x_3), (4, .ref r), (0, .ref a), (1, .ref b), (2, .int o)]) hx hb d_L_originOf_60 hl (k := 4) rfl (by rw [ex_3]; rfl) (by decide) rfl (fun ls hl => ?_)
            refine lv_goto (tgt := 4) hx hb d_L_originOf_63 (by decide) ?_
            rw [ex_3, nI_1] at hl
            rw [oS, if_neg (fun z => absurd z.2 (of_decide_eq_false (bI_z.mp c37)))] at hres
            rw [if_neg (of_decide_eq_false (bI_z.mp c51))] at hres
            exact ih (i + 1) _ hlt (by omega) hres ls (lv_sub hl [2, 3, 4, 0] rfl)
          · skip
            refine lv_aload hx hb d_L_originOf_54 (lv_at hl 0 rfl) ?_
            refine va_get (D := g.1) (ci := 4) (C := R_R) (T := F_R) (N := 8) hx hb hts i_R hown hK.1 hr90 0 rfl rfl 6 (by decide) (hts (.fieldLink "RegistryLog$Ledger" 53 "RegistryLog$Row" "origin" "I") (in_2 (List.mem_of_getElem? (i := 199) rfl) rfl)) (fun _ h9 => h9) rfl d_L_originOf_56 ?_
            refine lv_istore_n (lv' := [(2, .int (ro R9)), (4, .ref r), (0, .ref a), (1, .ref b), (3, .int (nI i))]) hx hb d_L_originOf_59 rfl hl (by decide) rfl (fun ls hl => ?_)
            obtain ⟨x_4, ex_4⟩ : ∃ y : Int32, y = (nI i) + 1 := ⟨_, rfl⟩
            refine lv_iinc (v := x_4) (lv' := [(3, .int x_4), (2, .int (ro R9)), (4, .ref r), (0, .ref a), (1, .ref b)]) hx hb d_L_originOf_60 hl (k := 4) rfl (by rw [ex_4]; rfl) (by decide) rfl (fun ls hl => ?_)
            refine lv_goto (tgt := 4) hx hb d_L_originOf_63 (by decide) ?_
            rw [ex_4, nI_1] at hl
            rw [oS, if_neg (fun z => absurd z.2 (of_decide_eq_false (bI_z.mp c37)))] at hres
            rw [if_pos (of_decide_eq_true (bI_n.mp c51))] at hres
            exact ih (i + 1) _ hlt (by omega) hres ls (lv_sub hl [3, 4, 1, 0] rfl)
        · skip
          refine lv_iconst (v := (-1)) hx hb d_L_originOf_40 (by decide) ?_
          rw [oS, if_pos ⟨c25, of_decide_eq_true (bI_n.mp c37)⟩] at hres
          exact W.iret hx hb hr (fun t9 ht hW => ⟨_, rfl, by rw [← hres], ht⟩) (fun q h => by cases h) d_L_originOf_41 hlk
set_option maxHeartbeats 4000000 in
set_option maxRecDepth 100000 in
/-- Ledger.originOf -/
theorem c_L_originOf (l : Launch) (g : gG) (H : Heap) (a b : Nat) (rows : List Rw) (t : List Nat) (h : isL g H a rows) (hb9 : isN g H b t) : Met l y_L_originOf (wC y_L_originOf b_L_originOf 5 (some .int)) (rmk 3 0 0 65) (pC g H [.ref a, .ref b]) (qP H (fun v => v = some (.int (oS t rows (-1))))) 0 0 no_ := by
  refine mB (by decide) (Nat.le_of_ble_eq_true rfl) ?_
  intro p e s m below meth c ls C0 hH hZ hnm hl
  have C0 : cF g p s m _ meth c b_L_originOf 5 "RegistryLog$Ledger" (some .int) := C0
  obtain ⟨hx, hb, hml, hown, hts, hr, hlk, hK⟩ := id C0
  subst hH
  have hl : lv_has ls 5 [(0, .ref a), (1, .ref b)] := hl
  refine lv_iconst (v := (-1)) hx hb d_L_originOf_0 (by decide) ?_
  refine lv_istore_n (lv' := [(2, .int ((-1))), (0, .ref a), (1, .ref b)]) hx hb d_L_originOf_1 rfl hl (by decide) rfl (fun ls hl => ?_)
  refine lv_iconst (v := 0) hx hb d_L_originOf_2 (by decide) ?_
  refine lv_istore_n (lv' := [(3, .int 0), (2, .int ((-1))), (0, .ref a), (1, .ref b)]) hx hb d_L_originOf_3 rfl hl (by decide) rfl (fun ls hl => ?_)
  exact lp_L_originOf C0 hZ a rows h b t hb9 _ (rows.length + 1) 0 (-1) (Nat.zero_le _) (by omega) rfl ls (lv_sub hl [2, 3, 1, 0] rfl)
end
section
theorem k_L_hasRight_7 : kV "RegistryLog$Ledger" 66 "RegistryLog$Ledger" y_L_founderOf b_L_founderOf 2 (some .int) 1 := ⟨(in_4 (List.mem_of_getElem? (i := 24) rfl) rfl), (in_4 (List.mem_of_getElem? (i := 10) rfl) rfl), (in_4 (List.mem_of_getElem? (i := 11) rfl) rfl), (in_1 (List.mem_of_getElem? (i := 6) rfl) rfl), (in_4 (List.mem_of_getElem? (i := 12) rfl) rfl), ⟨by decide, by decide, by decide +kernel⟩⟩
theorem k_L_hasRight_35 : kV "RegistryLog$Ledger" 35 "RegistryLog$Ledger" y_L_at b_L_at 2 (some (.object "RegistryLog$Row")) 1 := ⟨(in_3 (List.mem_of_getElem? (i := 236) rfl) rfl), (in_3 (List.mem_of_getElem? (i := 47) rfl) rfl), (in_3 (List.mem_of_getElem? (i := 48) rfl) rfl), (in_1 (List.mem_of_getElem? (i := 6) rfl) rfl), (in_3 (List.mem_of_getElem? (i := 49) rfl) rfl), ⟨by decide, by decide, by decide +kernel⟩⟩
set_option maxHeartbeats 4000000 in
set_option maxRecDepth 100000 in
theorem lp_L_hasRight {p : Program} {l : Launch} {e : Env} {s : State} {m : MethodId} {args : Array Value} {below : List Frame} {meth : Method} {c : Code} {g : gG} (C0 : cF g p s m args meth c b_L_hasRight 6 "RegistryLog$Ledger" (some .boolean)) (hZ : zK g s s.heap) (a : Nat) (rows : List Rw) (h : isL g s.heap a rows) (o q : Int32) (res : Bool) :
    ∀ (n i : Nat) (b0 : Bool), i ≤ rows.length → rows.length + 1 ≤ i + n → hrS o q (rows.drop i) b0 = res → ∀ (ls : Array Slot), lv_has ls 6 [(0, .ref a), (1, .int o), (2, .int q), (3, .int (bI b0)), (4, .int (nI i))] → W p l e (rmk 2 0 0 42) s m args below meth c s.heap [] 0 0 (MQ below (qP s.heap (fun v => v = some (.int (bI res)))) args s 0 0 no_) (F0 m 23 ls []) := by
  obtain ⟨hx, hb, hml, hown, hts, hr, hlk, hK⟩ := id C0
  obtain ⟨w, n0, f, f0, f1, hn9, hlen, hrs⟩ := id h
  intro n
  induction n with
  | zero => intro i b0 h1 h2; exact absurd h2 (by omega)
  | succ n ih =>
    intro i b0 hi hin hres ls hl
    refine lv_iload hx hb d_L_hasRight_23 (lv_at hl 4 rfl) ?_
    refine lv_aload_n hx hb d_L_hasRight_25 rfl (lv_at hl 0 rfl) ?_
    refine va_get (D := g.1) (ci := 1) (C := R_L) (T := F_L) (N := 3) hx hb hts i_L hown hK.1 f0 0 rfl rfl 2 (by decide) (hts (.fieldLink "RegistryLog$Ledger" 31 "RegistryLog$Ledger" "count" "I") (in_2 (List.mem_of_getElem? (i := 223) rfl) rfl)) (fun _ h9 => h9) rfl d_L_hasRight_26 ?_
    refine lv_icmp_ge (tgt := 88) hx hb d_L_hasRight_29 (by decide) (fun c29 => ?_) (fun c29 => ?_)
    · skip
      refine lv_iload_n hx hb d_L_hasRight_88 rfl (lv_at hl 3 rfl) ?_
      have he : i = rows.length := by have := (nI_leI (by omega) (by omega)).mp c29; omega
      subst he
      rw [List.drop_length] at hres
      exact W.zret hx hb hr (by cases b0 <;> rfl) (fun t9 ht hW => ⟨_, rfl, by rw [← hres]; rfl, ht⟩) (fun q h => by cases h) d_L_hasRight_89 hlk
    · skip
      have hlt : i < rows.length := by rcases Nat.lt_or_ge i rows.length with q | q; exact q; exact absurd (nI_le q (by omega)) c29
      refine lv_aload_n hx hb d_L_hasRight_32 rfl (lv_at hl 0 rfl) ?_
      refine lv_iload hx hb d_L_hasRight_33 (lv_at hl 4 rfl) ?_
      refine aP (rV (As := [.int (nI i)]) (rest := []) C0 (c_L_at l g s.heap a rows (nI i) h) hZ k_L_hasRight_35 rfl rfl ⟨Nat.le_of_ble_eq_true rfl, Nat.le_of_ble_eq_true rfl⟩ (isL_recv hK h) rfl hl.1 rfl (Nat.le_of_ble_eq_true rfl) d_L_hasRight_35 ⟨Nat.zero_le _, Nat.zero_le _⟩) ?_
      rintro v ⟨r, rfl, hr9⟩
      rw [atS_in hlt hlen] at hr9
      obtain ⟨R9, eR⟩ : ∃ R9, R9 = rows.getD i noRw := ⟨_, rfl⟩
      rw [← eR] at hr9
      rw [dropR hlt eR] at hres
      refine W.eq (g2 := F0 m 38 ls [.ref r]) rfl ?_
      obtain ⟨na, nb, hr90, hr9n, hr9a⟩ := hr9
      refine lv_astore (lv' := [(5, .ref r), (0, .ref a), (1, .int o), (2, .int q), (3, .int (bI b0)), (4, .int (nI i))]) hx hb d_L_hasRight_38 hl (by decide) rfl (fun ls hl => ?_)
      refine lv_aload hx hb d_L_hasRight_40 (lv_at hl 0 rfl) ?_
      refine va_get (D := g.1) (ci := 4) (C := R_R) (T := F_R) (N := 8) hx hb hts i_R hown hK.1 hr90 0 rfl rfl 0 (by decide) (hts (.fieldLink "RegistryLog$Ledger" 39 "RegistryLog$Row" "kind" "I") (in_2 (List.mem_of_getElem? (i := 183) rfl) rfl)) (fun _ h9 => h9) rfl d_L_hasRight_42 ?_
      refine lv_iconst (v := 2) hx hb d_L_hasRight_45 (by decide) ?_
      refine lv_icmp_ne (tgt := 82) hx hb d_L_hasRight_46 (by decide) (fun c46 => ?_) (fun c46 => ?_)
      · skip
        obtain ⟨x_1, ex_1⟩ : ∃ y : Int32, y = (nI i) + 1 := ⟨_, rfl⟩
        refine lv_iinc (v := x_1) (lv' := [(4, .int x_1), (5, .ref r), (0, .ref a), (1, .int o), (2, .int q), (3, .int (bI b0))]) hx hb d_L_hasRight_82 hl (k := 5) rfl (by rw [ex_1]; rfl) (by decide) rfl (fun ls hl => ?_)
        refine lv_goto (tgt := 23) hx hb d_L_hasRight_85 (by decide) ?_
        rw [ex_1, nI_1] at hl
        rw [hrS, if_neg (fun z => c46 z.1)] at hres
        exact ih (i + 1) b0 hlt (by omega) hres ls (lv_sub hl [2, 3, 4, 5, 0] rfl)
      · skip
        refine lv_aload hx hb d_L_hasRight_49 (lv_at hl 0 rfl) ?_
        refine va_get (D := g.1) (ci := 4) (C := R_R) (T := F_R) (N := 8) hx hb hts i_R hown hK.1 hr90 0 rfl rfl 6 (by decide) (hts (.fieldLink "RegistryLog$Ledger" 53 "RegistryLog$Row" "origin" "I") (in_2 (List.mem_of_getElem? (i := 199) rfl) rfl)) (fun _ h9 => h9) rfl d_L_hasRight_51 ?_
        refine lv_iload_n hx hb d_L_hasRight_54 rfl (lv_at hl 2 rfl) ?_
        refine lv_icmp_ne (tgt := 82) hx hb d_L_hasRight_55 (by decide) (fun c55 => ?_) (fun c55 => ?_)
        · skip
          obtain ⟨x_2, ex_2⟩ : ∃ y : Int32, y = (nI i) + 1 := ⟨_, rfl⟩
          refine lv_iinc (v := x_2) (lv' := [(4, .int x_2), (5, .ref r), (0, .ref a), (1, .int o), (2, .int q), (3, .int (bI b0))]) hx hb d_L_hasRight_82 hl (k := 5) rfl (by rw [ex_2]; rfl) (by decide) rfl (fun ls hl => ?_)
          refine lv_goto (tgt := 23) hx hb d_L_hasRight_85 (by decide) ?_
          rw [ex_2, nI_1] at hl
          rw [hrS, if_neg (fun z => c55 z.2.1)] at hres
          exact ih (i + 1) b0 hlt (by omega) hres ls (lv_sub hl [2, 3, 4, 5, 0] rfl)
        · skip
          refine lv_aload hx hb d_L_hasRight_58 (lv_at hl 0 rfl) ?_
          refine va_get (D := g.1) (ci := 4) (C := R_R) (T := F_R) (N := 8) hx hb hts i_R hown hK.1 hr90 0 rfl rfl 4 (by decide) (hts (.fieldLink "RegistryLog$Ledger" 70 "RegistryLog$Row" "second" "I") (in_2 (List.mem_of_getElem? (i := 194) rfl) rfl)) (fun _ h9 => h9) rfl d_L_hasRight_60 ?_
          refine lv_iload_n hx hb d_L_hasRight_63 rfl (lv_at hl 3 rfl) ?_
          refine lv_icmp_ne (tgt := 82) hx hb d_L_hasRight_64 (by decide) (fun c64 => ?_) (fun c64 => ?_)
          · skip
            obtain ⟨x_3, ex_3⟩ : ∃ y : Int32, y = (nI i) + 1 := ⟨_, rfl⟩
            refine lv_iinc (v := x_3) (lv' := [(4, .int x_3), (5, .ref r), (0, .ref a), (1, .int o), (2, .int q), (3, .int (bI b0))]) hx hb d_L_hasRight_82 hl (k := 5) rfl (by rw [ex_3]; rfl) (by decide) rfl (fun ls hl => ?_)
            refine lv_goto (tgt := 23) hx hb d_L_hasRight_85 (by decide) ?_
            rw [ex_3, nI_1] at hl
            rw [hrS, if_neg (fun z => c64 z.2.2)] at hres
            exact ih (i + 1) b0 hlt (by omega) hres ls (lv_sub hl [2, 3, 4, 5, 0] rfl)
          · skip
            refine lv_aload hx hb d_L_hasRight_67 (lv_at hl 0 rfl) ?_
            refine va_get (D := g.1) (ci := 4) (C := R_R) (T := F_R) (N := 8) hx hb hts i_R hown hK.1 hr90 0 rfl rfl 5 (by decide) (hts (.fieldLink "RegistryLog$Ledger" 73 "RegistryLog$Row" "third" "I") (in_2 (List.mem_of_getElem? (i := 197) rfl) rfl)) (fun _ h9 => h9) rfl d_L_hasRight_69 ?_
            refine lv_iconst (v := 1) hx hb d_L_hasRight_72 (by decide) ?_
            refine lv_icmp_ne (tgt := 80) hx hb d_L_hasRight_73 (by decide) (fun c73 => ?_) (fun c73 => ?_)
            · skip
              refine lv_iconst (v := 0) hx hb d_L_hasRight_80 (by decide) ?_
              refine lv_istore_n (lv' := [(3, .int 0), (5, .ref r), (0, .ref a), (1, .int o), (2, .int q), (4, .int (nI i))]) hx hb d_L_hasRight_81 rfl hl (by decide) rfl (fun ls hl => ?_)
              obtain ⟨x_4, ex_4⟩ : ∃ y : Int32, y = (nI i) + 1 := ⟨_, rfl⟩
              refine lv_iinc (v := x_4) (lv' := [(4, .int x_4), (3, .int 0), (5, .ref r), (0, .ref a), (1, .int o), (2, .int q)]) hx hb d_L_hasRight_82 hl (k := 5) rfl (by rw [ex_4]; rfl) (by decide) rfl (fun ls hl => ?_)
              refine lv_goto (tgt := 23) hx hb d_L_hasRight_85 (by decide) ?_
              rw [ex_4, nI_1] at hl
              rw [hrS, if_pos ⟨c46, c55, c64⟩] at hres
              rw [decide_eq_false c73] at hres
              exact ih (i + 1) false hlt (by omega) hres ls (lv_sub hl [3, 4, 5, 1, 0] rfl)
            · skip
              refine lv_iconst (v := 1) hx hb d_L_hasRight_76 (by decide) ?_
              refine lv_goto (tgt := 81) hx hb d_L_hasRight_77 (by decide) ?_
              refine lv_istore_n (lv' := [(3, .int 1), (5, .ref r), (0, .ref a), (1, .int o), (2, .int q), (4, .int (nI i))]) hx hb d_L_hasRight_81 rfl hl (by decide) rfl (fun ls hl => ?_)
              obtain ⟨x_5, ex_5⟩ : ∃ y : Int32, y = (nI i) + 1 := ⟨_, rfl⟩
              refine lv_iinc (v := x_5) (lv' := [(4, .int x_5), (3, .int 1), (5, .ref r), (0, .ref a), (1, .int o), (2, .int q)]) hx hb d_L_hasRight_82 hl (k := 5) rfl (by rw [ex_5]; rfl) (by decide) rfl (fun ls hl => ?_)
              refine lv_goto (tgt := 23) hx hb d_L_hasRight_85 (by decide) ?_
              rw [ex_5, nI_1] at hl
              rw [hrS, if_pos ⟨c46, c55, c64⟩] at hres
              rw [decide_eq_true c73] at hres
              exact ih (i + 1) true hlt (by omega) hres ls (lv_sub hl [3, 4, 5, 1, 0] rfl)
set_option maxHeartbeats 4000000 in
set_option maxRecDepth 100000 in
/-- Ledger.hasRight -/
theorem c_L_hasRight (l : Launch) (g : gG) (H : Heap) (a : Nat) (rows : List Rw) (o q : Int32) (h : isL g H a rows) : Met l y_L_hasRight (wC y_L_hasRight b_L_hasRight 6 (some .boolean)) (rmk 2 0 0 42) (pC g H [.ref a, .int o, .int q]) (qP H (fun v => v = some (.int (bI (hrS o q rows (decide (o ≠ -1 ∧ rp (atS rows o) = q))))))) 0 0 no_ := by
  refine mB (by decide) (Nat.le_of_ble_eq_true rfl) ?_
  intro p e s m below meth c ls C0 hH hZ hnm hl
  have C0 : cF g p s m _ meth c b_L_hasRight 6 "RegistryLog$Ledger" (some .boolean) := C0
  obtain ⟨hx, hb, hml, hown, hts, hr, hlk, hK⟩ := id C0
  subst hH
  have hl : lv_has ls 6 [(0, .ref a), (1, .int o), (2, .int q)] := hl
  refine lv_iload_n hx hb d_L_hasRight_0 rfl (lv_at hl 1 rfl) ?_
  refine lv_iconst (v := (-1)) hx hb d_L_hasRight_1 (by decide) ?_
  refine lv_icmp_eq (tgt := 18) hx hb d_L_hasRight_2 (by decide) (fun c2 => ?_) (fun c2 => ?_)
  · skip
    refine lv_iconst (v := 0) hx hb d_L_hasRight_18 (by decide) ?_
    refine lv_istore_n (lv' := [(3, .int 0), (0, .ref a), (1, .int o), (2, .int q)]) hx hb d_L_hasRight_19 rfl hl (by decide) rfl (fun ls hl => ?_)
    refine lv_iconst (v := 0) hx hb d_L_hasRight_20 (by decide) ?_
    refine lv_istore (lv' := [(4, .int 0), (3, .int 0), (0, .ref a), (1, .int o), (2, .int q)]) hx hb d_L_hasRight_21 hl (by decide) rfl (fun ls hl => ?_)
    have e0 : decide (o ≠ -1 ∧ rp (atS rows o) = q) = false := decide_eq_false (fun z => z.1 c2)
    rw [e0]
    exact lp_L_hasRight C0 hZ a rows h o q _ (rows.length + 1) 0 false (Nat.zero_le _) (by omega) rfl ls (lv_sub hl [2, 3, 4, 1, 0] rfl)
  · skip
    refine lv_aload_n hx hb d_L_hasRight_5 rfl (lv_at hl 0 rfl) ?_
    refine lv_iload_n hx hb d_L_hasRight_6 rfl (lv_at hl 1 rfl) ?_
    refine aP (rV (As := [.int o]) (rest := []) C0 (c_L_founderOf l g s.heap a rows o h) hZ k_L_hasRight_7 rfl rfl ⟨Nat.le_of_ble_eq_true rfl, Nat.le_of_ble_eq_true rfl⟩ (isL_recv hK h) rfl hl.1 rfl (Nat.le_of_ble_eq_true rfl) d_L_hasRight_7 ⟨Nat.zero_le _, Nat.zero_le _⟩) ?_
    intro v hv; subst hv
    refine W.eq (g2 := F0 m 10 ls [.int (rp (atS rows o))]) rfl ?_
    refine lv_iload_n hx hb d_L_hasRight_10 rfl (lv_at hl 2 rfl) ?_
    refine lv_icmp_ne (tgt := 18) hx hb d_L_hasRight_11 (by decide) (fun c11 => ?_) (fun c11 => ?_)
    · skip
      refine lv_iconst (v := 0) hx hb d_L_hasRight_18 (by decide) ?_
      refine lv_istore_n (lv' := [(3, .int 0), (0, .ref a), (1, .int o), (2, .int q)]) hx hb d_L_hasRight_19 rfl hl (by decide) rfl (fun ls hl => ?_)
      refine lv_iconst (v := 0) hx hb d_L_hasRight_20 (by decide) ?_
      refine lv_istore (lv' := [(4, .int 0), (3, .int 0), (0, .ref a), (1, .int o), (2, .int q)]) hx hb d_L_hasRight_21 hl (by decide) rfl (fun ls hl => ?_)
      have e0 : decide (o ≠ -1 ∧ rp (atS rows o) = q) = false := decide_eq_false (fun z => c11 z.2)
      rw [e0]
      exact lp_L_hasRight C0 hZ a rows h o q _ (rows.length + 1) 0 false (Nat.zero_le _) (by omega) rfl ls (lv_sub hl [2, 3, 4, 1, 0] rfl)
    · skip
      refine lv_iconst (v := 1) hx hb d_L_hasRight_14 (by decide) ?_
      refine lv_goto (tgt := 19) hx hb d_L_hasRight_15 (by decide) ?_
      refine lv_istore_n (lv' := [(3, .int 1), (0, .ref a), (1, .int o), (2, .int q)]) hx hb d_L_hasRight_19 rfl hl (by decide) rfl (fun ls hl => ?_)
      refine lv_iconst (v := 0) hx hb d_L_hasRight_20 (by decide) ?_
      refine lv_istore (lv' := [(4, .int 0), (3, .int 1), (0, .ref a), (1, .int o), (2, .int q)]) hx hb d_L_hasRight_21 hl (by decide) rfl (fun ls hl => ?_)
      have e0 : decide (o ≠ -1 ∧ rp (atS rows o) = q) = true := decide_eq_true ⟨c2, c11⟩
      rw [e0]
      exact lp_L_hasRight C0 hZ a rows h o q _ (rows.length + 1) 0 true (Nat.zero_le _) (by omega) rfl ls (lv_sub hl [2, 3, 4, 1, 0] rfl)
theorem k_L_publishOf_12 : kV "RegistryLog$Ledger" 35 "RegistryLog$Ledger" y_L_at b_L_at 2 (some (.object "RegistryLog$Row")) 1 := ⟨(in_3 (List.mem_of_getElem? (i := 236) rfl) rfl), (in_3 (List.mem_of_getElem? (i := 47) rfl) rfl), (in_3 (List.mem_of_getElem? (i := 48) rfl) rfl), (in_1 (List.mem_of_getElem? (i := 6) rfl) rfl), (in_3 (List.mem_of_getElem? (i := 49) rfl) rfl), ⟨by decide, by decide, by decide +kernel⟩⟩
set_option maxHeartbeats 4000000 in
set_option maxRecDepth 100000 in
theorem lp_L_publishOf {p : Program} {l : Launch} {e : Env} {s : State} {m : MethodId} {args : Array Value} {below : List Frame} {meth : Method} {c : Code} {g : gG} (C0 : cF g p s m args meth c b_L_publishOf 5 "RegistryLog$Ledger" (some .int)) (hZ : zK g s s.heap) (a : Nat) (rows : List Rw) (h : isL g s.heap a rows) (o q : Int32) (res : Int32) :
    ∀ (n i : Nat), i ≤ rows.length → rows.length + 1 ≤ i + n → pubS o q (rows.drop i) i = res → ∀ (ls : Array Slot), lv_has ls 5 [(0, .ref a), (1, .int o), (2, .int q), (3, .int (nI i))] → W p l e (rmk 1 0 0 21) s m args below meth c s.heap [] 0 0 (MQ below (qP s.heap (fun v => v = some (.int res))) args s 0 0 no_) (F0 m 2 ls []) := by
  obtain ⟨hx, hb, hml, hown, hts, hr, hlk, hK⟩ := id C0
  obtain ⟨w, n0, f, f0, f1, hn9, hlen, hrs⟩ := id h
  intro n
  induction n with
  | zero => intro i h1 h2; exact absurd h2 (by omega)
  | succ n ih =>
    intro i hi hin hres ls hl
    refine lv_iload_n hx hb d_L_publishOf_2 rfl (lv_at hl 3 rfl) ?_
    refine lv_aload_n hx hb d_L_publishOf_3 rfl (lv_at hl 0 rfl) ?_
    refine va_get (D := g.1) (ci := 1) (C := R_L) (T := F_L) (N := 3) hx hb hts i_L hown hK.1 f0 0 rfl rfl 2 (by decide) (hts (.fieldLink "RegistryLog$Ledger" 31 "RegistryLog$Ledger" "count" "I") (in_2 (List.mem_of_getElem? (i := 223) rfl) rfl)) (fun _ h9 => h9) rfl d_L_publishOf_4 ?_
    refine lv_icmp_ge (tgt := 51) hx hb d_L_publishOf_7 (by decide) (fun c7 => ?_) (fun c7 => ?_)
    · skip
      refine lv_iconst (v := (-1)) hx hb d_L_publishOf_51 (by decide) ?_
      have he : i = rows.length := by have := (nI_leI (by omega) (by omega)).mp c7; omega
      subst he
      rw [List.drop_length] at hres
      exact W.iret hx hb hr (fun t9 ht hW => ⟨_, rfl, by rw [← hres]; rfl, ht⟩) (fun q h => by cases h) d_L_publishOf_52 hlk
    · skip
      have hlt : i < rows.length := by rcases Nat.lt_or_ge i rows.length with q | q; exact q; exact absurd (nI_le q (by omega)) c7
      refine lv_aload_n hx hb d_L_publishOf_10 rfl (lv_at hl 0 rfl) ?_
      refine lv_iload_n hx hb d_L_publishOf_11 rfl (lv_at hl 3 rfl) ?_
      refine aP (rV (As := [.int (nI i)]) (rest := []) C0 (c_L_at l g s.heap a rows (nI i) h) hZ k_L_publishOf_12 rfl rfl ⟨Nat.le_of_ble_eq_true rfl, Nat.le_of_ble_eq_true rfl⟩ (isL_recv hK h) rfl hl.1 rfl (Nat.le_of_ble_eq_true rfl) d_L_publishOf_12 ⟨Nat.zero_le _, Nat.zero_le _⟩) ?_
      rintro v ⟨r, rfl, hr9⟩
      rw [atS_in hlt hlen] at hr9
      obtain ⟨R9, eR⟩ : ∃ R9, R9 = rows.getD i noRw := ⟨_, rfl⟩
      rw [← eR] at hr9
      rw [dropR hlt eR] at hres
      refine W.eq (g2 := F0 m 15 ls [.ref r]) rfl ?_
      obtain ⟨na, nb, hr90, hr9n, hr9a⟩ := hr9
      refine lv_astore (lv' := [(4, .ref r), (0, .ref a), (1, .int o), (2, .int q), (3, .int (nI i))]) hx hb d_L_publishOf_15 hl (by decide) rfl (fun ls hl => ?_)
      refine lv_aload hx hb d_L_publishOf_17 (lv_at hl 0 rfl) ?_
      refine va_get (D := g.1) (ci := 4) (C := R_R) (T := F_R) (N := 8) hx hb hts i_R hown hK.1 hr90 0 rfl rfl 0 (by decide) (hts (.fieldLink "RegistryLog$Ledger" 39 "RegistryLog$Row" "kind" "I") (in_2 (List.mem_of_getElem? (i := 183) rfl) rfl)) (fun _ h9 => h9) rfl d_L_publishOf_19 ?_
      refine lv_if_ne (tgt := 45) hx hb d_L_publishOf_22 (by decide) (fun c22 => ?_) (fun c22 => ?_)
      · skip
        obtain ⟨x_1, ex_1⟩ : ∃ y : Int32, y = (nI i) + 1 := ⟨_, rfl⟩
        refine lv_iinc (v := x_1) (lv' := [(3, .int x_1), (4, .ref r), (0, .ref a), (1, .int o), (2, .int q)]) hx hb d_L_publishOf_45 hl (k := 4) rfl (by rw [ex_1]; rfl) (by decide) rfl (fun ls hl => ?_)
        refine lv_goto (tgt := 2) hx hb d_L_publishOf_48 (by decide) ?_
        rw [ex_1, nI_1] at hl
        rw [pubS, if_neg (fun z => c22 z.1)] at hres
        exact ih (i + 1) hlt (by omega) hres ls (lv_sub hl [2, 3, 4, 0] rfl)
      · skip
        refine lv_aload hx hb d_L_publishOf_25 (lv_at hl 0 rfl) ?_
        refine va_get (D := g.1) (ci := 4) (C := R_R) (T := F_R) (N := 8) hx hb hts i_R hown hK.1 hr90 0 rfl rfl 6 (by decide) (hts (.fieldLink "RegistryLog$Ledger" 53 "RegistryLog$Row" "origin" "I") (in_2 (List.mem_of_getElem? (i := 199) rfl) rfl)) (fun _ h9 => h9) rfl d_L_publishOf_27 ?_
        refine lv_iload_n hx hb d_L_publishOf_30 rfl (lv_at hl 2 rfl) ?_
        refine lv_icmp_ne (tgt := 45) hx hb d_L_publishOf_31 (by decide) (fun c31 => ?_) (fun c31 => ?_)
        · skip
          obtain ⟨x_2, ex_2⟩ : ∃ y : Int32, y = (nI i) + 1 := ⟨_, rfl⟩
          refine lv_iinc (v := x_2) (lv' := [(3, .int x_2), (4, .ref r), (0, .ref a), (1, .int o), (2, .int q)]) hx hb d_L_publishOf_45 hl (k := 4) rfl (by rw [ex_2]; rfl) (by decide) rfl (fun ls hl => ?_)
          refine lv_goto (tgt := 2) hx hb d_L_publishOf_48 (by decide) ?_
          rw [ex_2, nI_1] at hl
          rw [pubS, if_neg (fun z => c31 z.2.1)] at hres
          exact ih (i + 1) hlt (by omega) hres ls (lv_sub hl [2, 3, 4, 0] rfl)
        · skip
          refine lv_aload hx hb d_L_publishOf_34 (lv_at hl 0 rfl) ?_
          refine va_get (D := g.1) (ci := 4) (C := R_R) (T := F_R) (N := 8) hx hb hts i_R hown hK.1 hr90 0 rfl rfl 4 (by decide) (hts (.fieldLink "RegistryLog$Ledger" 70 "RegistryLog$Row" "second" "I") (in_2 (List.mem_of_getElem? (i := 194) rfl) rfl)) (fun _ h9 => h9) rfl d_L_publishOf_36 ?_
          refine lv_iload_n hx hb d_L_publishOf_39 rfl (lv_at hl 3 rfl) ?_
          refine lv_icmp_ne (tgt := 45) hx hb d_L_publishOf_40 (by decide) (fun c40 => ?_) (fun c40 => ?_)
          · skip
            obtain ⟨x_3, ex_3⟩ : ∃ y : Int32, y = (nI i) + 1 := ⟨_, rfl⟩
            refine lv_iinc (v := x_3) (lv' := [(3, .int x_3), (4, .ref r), (0, .ref a), (1, .int o), (2, .int q)]) hx hb d_L_publishOf_45 hl (k := 4) rfl (by rw [ex_3]; rfl) (by decide) rfl (fun ls hl => ?_)
            refine lv_goto (tgt := 2) hx hb d_L_publishOf_48 (by decide) ?_
            rw [ex_3, nI_1] at hl
            rw [pubS, if_neg (fun z => c40 z.2.2)] at hres
            exact ih (i + 1) hlt (by omega) hres ls (lv_sub hl [2, 3, 4, 0] rfl)
          · skip
            refine lv_iload_n hx hb d_L_publishOf_43 rfl (lv_at hl 4 rfl) ?_
            rw [pubS, if_pos ⟨c22, c31, c40⟩] at hres
            exact W.iret hx hb hr (fun t9 ht hW => ⟨_, rfl, by rw [← hres], ht⟩) (fun q h => by cases h) d_L_publishOf_44 hlk
set_option maxHeartbeats 4000000 in
set_option maxRecDepth 100000 in
/-- Ledger.publishOf -/
theorem c_L_publishOf (l : Launch) (g : gG) (H : Heap) (a : Nat) (rows : List Rw) (o q : Int32) (h : isL g H a rows) : Met l y_L_publishOf (wC y_L_publishOf b_L_publishOf 5 (some .int)) (rmk 1 0 0 21) (pC g H [.ref a, .int o, .int q]) (qP H (fun v => v = some (.int (pubS o q rows 0)))) 0 0 no_ := by
  refine mB (by decide) (Nat.le_of_ble_eq_true rfl) ?_
  intro p e s m below meth c ls C0 hH hZ hnm hl
  have C0 : cF g p s m _ meth c b_L_publishOf 5 "RegistryLog$Ledger" (some .int) := C0
  obtain ⟨hx, hb, hml, hown, hts, hr, hlk, hK⟩ := id C0
  subst hH
  have hl : lv_has ls 5 [(0, .ref a), (1, .int o), (2, .int q)] := hl
  refine lv_iconst (v := 0) hx hb d_L_publishOf_0 (by decide) ?_
  refine lv_istore_n (lv' := [(3, .int 0), (0, .ref a), (1, .int o), (2, .int q)]) hx hb d_L_publishOf_1 rfl hl (by decide) rfl (fun ls hl => ?_)
  exact lp_L_publishOf C0 hZ a rows h o q _ (rows.length + 1) 0 (Nat.zero_le _) (by omega) rfl ls (lv_sub hl [1, 2, 3, 0] rfl)
theorem k_L_isYanked_17 : kV "RegistryLog$Ledger" 35 "RegistryLog$Ledger" y_L_at b_L_at 2 (some (.object "RegistryLog$Row")) 1 := ⟨(in_3 (List.mem_of_getElem? (i := 236) rfl) rfl), (in_3 (List.mem_of_getElem? (i := 47) rfl) rfl), (in_3 (List.mem_of_getElem? (i := 48) rfl) rfl), (in_1 (List.mem_of_getElem? (i := 6) rfl) rfl), (in_3 (List.mem_of_getElem? (i := 49) rfl) rfl), ⟨by decide, by decide, by decide +kernel⟩⟩
set_option maxHeartbeats 4000000 in
set_option maxRecDepth 100000 in
theorem lp_L_isYanked {p : Program} {l : Launch} {e : Env} {s : State} {m : MethodId} {args : Array Value} {below : List Frame} {meth : Method} {c : Code} {g : gG} (C0 : cF g p s m args meth c b_L_isYanked 6 "RegistryLog$Ledger" (some .boolean)) (hZ : zK g s s.heap) (a : Nat) (rows : List Rw) (h : isL g s.heap a rows) (o q : Int32) (res : Bool) :
    ∀ (n i : Nat) (b0 : Bool), i ≤ rows.length → rows.length + 1 ≤ i + n → ynS o q (rows.drop i) b0 = res → ∀ (ls : Array Slot), lv_has ls 6 [(0, .ref a), (1, .int o), (2, .int q), (3, .int (bI b0)), (4, .int (nI i))] → W p l e (rmk 1 0 0 21) s m args below meth c s.heap [] 0 0 (MQ below (qP s.heap (fun v => v = some (.int (bI res)))) args s 0 0 no_) (F0 m 5 ls []) := by
  obtain ⟨hx, hb, hml, hown, hts, hr, hlk, hK⟩ := id C0
  obtain ⟨w, n0, f, f0, f1, hn9, hlen, hrs⟩ := id h
  intro n
  induction n with
  | zero => intro i b0 h1 h2; exact absurd h2 (by omega)
  | succ n ih =>
    intro i b0 hi hin hres ls hl
    refine lv_iload hx hb d_L_isYanked_5 (lv_at hl 4 rfl) ?_
    refine lv_aload_n hx hb d_L_isYanked_7 rfl (lv_at hl 0 rfl) ?_
    refine va_get (D := g.1) (ci := 1) (C := R_L) (T := F_L) (N := 3) hx hb hts i_L hown hK.1 f0 0 rfl rfl 2 (by decide) (hts (.fieldLink "RegistryLog$Ledger" 31 "RegistryLog$Ledger" "count" "I") (in_2 (List.mem_of_getElem? (i := 223) rfl) rfl)) (fun _ h9 => h9) rfl d_L_isYanked_8 ?_
    refine lv_icmp_ge (tgt := 70) hx hb d_L_isYanked_11 (by decide) (fun c11 => ?_) (fun c11 => ?_)
    · skip
      refine lv_iload_n hx hb d_L_isYanked_70 rfl (lv_at hl 3 rfl) ?_
      have he : i = rows.length := by have := (nI_leI (by omega) (by omega)).mp c11; omega
      subst he
      rw [List.drop_length] at hres
      exact W.zret hx hb hr (by cases b0 <;> rfl) (fun t9 ht hW => ⟨_, rfl, by rw [← hres]; rfl, ht⟩) (fun q h => by cases h) d_L_isYanked_71 hlk
    · skip
      have hlt : i < rows.length := by rcases Nat.lt_or_ge i rows.length with q | q; exact q; exact absurd (nI_le q (by omega)) c11
      refine lv_aload_n hx hb d_L_isYanked_14 rfl (lv_at hl 0 rfl) ?_
      refine lv_iload hx hb d_L_isYanked_15 (lv_at hl 4 rfl) ?_
      refine aP (rV (As := [.int (nI i)]) (rest := []) C0 (c_L_at l g s.heap a rows (nI i) h) hZ k_L_isYanked_17 rfl rfl ⟨Nat.le_of_ble_eq_true rfl, Nat.le_of_ble_eq_true rfl⟩ (isL_recv hK h) rfl hl.1 rfl (Nat.le_of_ble_eq_true rfl) d_L_isYanked_17 ⟨Nat.zero_le _, Nat.zero_le _⟩) ?_
      rintro v ⟨r, rfl, hr9⟩
      rw [atS_in hlt hlen] at hr9
      obtain ⟨R9, eR⟩ : ∃ R9, R9 = rows.getD i noRw := ⟨_, rfl⟩
      rw [← eR] at hr9
      rw [dropR hlt eR] at hres
      refine W.eq (g2 := F0 m 20 ls [.ref r]) rfl ?_
      obtain ⟨na, nb, hr90, hr9n, hr9a⟩ := hr9
      refine lv_astore (lv' := [(5, .ref r), (0, .ref a), (1, .int o), (2, .int q), (3, .int (bI b0)), (4, .int (nI i))]) hx hb d_L_isYanked_20 hl (by decide) rfl (fun ls hl => ?_)
      refine lv_aload hx hb d_L_isYanked_22 (lv_at hl 0 rfl) ?_
      refine va_get (D := g.1) (ci := 4) (C := R_R) (T := F_R) (N := 8) hx hb hts i_R hown hK.1 hr90 0 rfl rfl 0 (by decide) (hts (.fieldLink "RegistryLog$Ledger" 39 "RegistryLog$Row" "kind" "I") (in_2 (List.mem_of_getElem? (i := 183) rfl) rfl)) (fun _ h9 => h9) rfl d_L_isYanked_24 ?_
      refine lv_iconst (v := 1) hx hb d_L_isYanked_27 (by decide) ?_
      refine lv_icmp_ne (tgt := 64) hx hb d_L_isYanked_28 (by decide) (fun c28 => ?_) (fun c28 => ?_)
      · skip
        obtain ⟨x_1, ex_1⟩ : ∃ y : Int32, y = (nI i) + 1 := ⟨_, rfl⟩
        refine lv_iinc (v := x_1) (lv' := [(4, .int x_1), (5, .ref r), (0, .ref a), (1, .int o), (2, .int q), (3, .int (bI b0))]) hx hb d_L_isYanked_64 hl (k := 5) rfl (by rw [ex_1]; rfl) (by decide) rfl (fun ls hl => ?_)
        refine lv_goto (tgt := 5) hx hb d_L_isYanked_67 (by decide) ?_
        rw [ex_1, nI_1] at hl
        rw [ynS, if_neg (fun z => c28 z.1)] at hres
        exact ih (i + 1) b0 hlt (by omega) hres ls (lv_sub hl [2, 3, 4, 5, 0] rfl)
      · skip
        refine lv_aload hx hb d_L_isYanked_31 (lv_at hl 0 rfl) ?_
        refine va_get (D := g.1) (ci := 4) (C := R_R) (T := F_R) (N := 8) hx hb hts i_R hown hK.1 hr90 0 rfl rfl 6 (by decide) (hts (.fieldLink "RegistryLog$Ledger" 53 "RegistryLog$Row" "origin" "I") (in_2 (List.mem_of_getElem? (i := 199) rfl) rfl)) (fun _ h9 => h9) rfl d_L_isYanked_33 ?_
        refine lv_iload_n hx hb d_L_isYanked_36 rfl (lv_at hl 2 rfl) ?_
        refine lv_icmp_ne (tgt := 64) hx hb d_L_isYanked_37 (by decide) (fun c37 => ?_) (fun c37 => ?_)
        · skip
          obtain ⟨x_2, ex_2⟩ : ∃ y : Int32, y = (nI i) + 1 := ⟨_, rfl⟩
          refine lv_iinc (v := x_2) (lv' := [(4, .int x_2), (5, .ref r), (0, .ref a), (1, .int o), (2, .int q), (3, .int (bI b0))]) hx hb d_L_isYanked_64 hl (k := 5) rfl (by rw [ex_2]; rfl) (by decide) rfl (fun ls hl => ?_)
          refine lv_goto (tgt := 5) hx hb d_L_isYanked_67 (by decide) ?_
          rw [ex_2, nI_1] at hl
          rw [ynS, if_neg (fun z => c37 z.2.1)] at hres
          exact ih (i + 1) b0 hlt (by omega) hres ls (lv_sub hl [2, 3, 4, 5, 0] rfl)
        · skip
          refine lv_aload hx hb d_L_isYanked_40 (lv_at hl 0 rfl) ?_
          refine va_get (D := g.1) (ci := 4) (C := R_R) (T := F_R) (N := 8) hx hb hts i_R hown hK.1 hr90 0 rfl rfl 4 (by decide) (hts (.fieldLink "RegistryLog$Ledger" 70 "RegistryLog$Row" "second" "I") (in_2 (List.mem_of_getElem? (i := 194) rfl) rfl)) (fun _ h9 => h9) rfl d_L_isYanked_42 ?_
          refine lv_iload_n hx hb d_L_isYanked_45 rfl (lv_at hl 3 rfl) ?_
          refine lv_icmp_ne (tgt := 64) hx hb d_L_isYanked_46 (by decide) (fun c46 => ?_) (fun c46 => ?_)
          · skip
            obtain ⟨x_3, ex_3⟩ : ∃ y : Int32, y = (nI i) + 1 := ⟨_, rfl⟩
            refine lv_iinc (v := x_3) (lv' := [(4, .int x_3), (5, .ref r), (0, .ref a), (1, .int o), (2, .int q), (3, .int (bI b0))]) hx hb d_L_isYanked_64 hl (k := 5) rfl (by rw [ex_3]; rfl) (by decide) rfl (fun ls hl => ?_)
            refine lv_goto (tgt := 5) hx hb d_L_isYanked_67 (by decide) ?_
            rw [ex_3, nI_1] at hl
            rw [ynS, if_neg (fun z => c46 z.2.2)] at hres
            exact ih (i + 1) b0 hlt (by omega) hres ls (lv_sub hl [2, 3, 4, 5, 0] rfl)
          · skip
            refine lv_aload hx hb d_L_isYanked_49 (lv_at hl 0 rfl) ?_
            refine va_get (D := g.1) (ci := 4) (C := R_R) (T := F_R) (N := 8) hx hb hts i_R hown hK.1 hr90 0 rfl rfl 5 (by decide) (hts (.fieldLink "RegistryLog$Ledger" 73 "RegistryLog$Row" "third" "I") (in_2 (List.mem_of_getElem? (i := 197) rfl) rfl)) (fun _ h9 => h9) rfl d_L_isYanked_51 ?_
            refine lv_iconst (v := 1) hx hb d_L_isYanked_54 (by decide) ?_
            refine lv_icmp_ne (tgt := 62) hx hb d_L_isYanked_55 (by decide) (fun c55 => ?_) (fun c55 => ?_)
            · skip
              refine lv_iconst (v := 0) hx hb d_L_isYanked_62 (by decide) ?_
              refine lv_istore_n (lv' := [(3, .int 0), (5, .ref r), (0, .ref a), (1, .int o), (2, .int q), (4, .int (nI i))]) hx hb d_L_isYanked_63 rfl hl (by decide) rfl (fun ls hl => ?_)
              obtain ⟨x_4, ex_4⟩ : ∃ y : Int32, y = (nI i) + 1 := ⟨_, rfl⟩
              refine lv_iinc (v := x_4) (lv' := [(4, .int x_4), (3, .int 0), (5, .ref r), (0, .ref a), (1, .int o), (2, .int q)]) hx hb d_L_isYanked_64 hl (k := 5) rfl (by rw [ex_4]; rfl) (by decide) rfl (fun ls hl => ?_)
              refine lv_goto (tgt := 5) hx hb d_L_isYanked_67 (by decide) ?_
              rw [ex_4, nI_1] at hl
              rw [ynS, if_pos ⟨c28, c37, c46⟩] at hres
              rw [decide_eq_false c55] at hres
              exact ih (i + 1) false hlt (by omega) hres ls (lv_sub hl [3, 4, 5, 1, 0] rfl)
            · skip
              refine lv_iconst (v := 1) hx hb d_L_isYanked_58 (by decide) ?_
              refine lv_goto (tgt := 63) hx hb d_L_isYanked_59 (by decide) ?_
              refine lv_istore_n (lv' := [(3, .int 1), (5, .ref r), (0, .ref a), (1, .int o), (2, .int q), (4, .int (nI i))]) hx hb d_L_isYanked_63 rfl hl (by decide) rfl (fun ls hl => ?_)
              obtain ⟨x_5, ex_5⟩ : ∃ y : Int32, y = (nI i) + 1 := ⟨_, rfl⟩
              refine lv_iinc (v := x_5) (lv' := [(4, .int x_5), (3, .int 1), (5, .ref r), (0, .ref a), (1, .int o), (2, .int q)]) hx hb d_L_isYanked_64 hl (k := 5) rfl (by rw [ex_5]; rfl) (by decide) rfl (fun ls hl => ?_)
              refine lv_goto (tgt := 5) hx hb d_L_isYanked_67 (by decide) ?_
              rw [ex_5, nI_1] at hl
              rw [ynS, if_pos ⟨c28, c37, c46⟩] at hres
              rw [decide_eq_true c55] at hres
              exact ih (i + 1) true hlt (by omega) hres ls (lv_sub hl [3, 4, 5, 1, 0] rfl)
set_option maxHeartbeats 4000000 in
set_option maxRecDepth 100000 in
/-- Ledger.isYanked -/
theorem c_L_isYanked (l : Launch) (g : gG) (H : Heap) (a : Nat) (rows : List Rw) (o q : Int32) (h : isL g H a rows) : Met l y_L_isYanked (wC y_L_isYanked b_L_isYanked 6 (some .boolean)) (rmk 1 0 0 21) (pC g H [.ref a, .int o, .int q]) (qP H (fun v => v = some (.int (bI (ynS o q rows false))))) 0 0 no_ := by
  refine mB (by decide) (Nat.le_of_ble_eq_true rfl) ?_
  intro p e s m below meth c ls C0 hH hZ hnm hl
  have C0 : cF g p s m _ meth c b_L_isYanked 6 "RegistryLog$Ledger" (some .boolean) := C0
  obtain ⟨hx, hb, hml, hown, hts, hr, hlk, hK⟩ := id C0
  subst hH
  have hl : lv_has ls 6 [(0, .ref a), (1, .int o), (2, .int q)] := hl
  refine lv_iconst (v := 0) hx hb d_L_isYanked_0 (by decide) ?_
  refine lv_istore_n (lv' := [(3, .int 0), (0, .ref a), (1, .int o), (2, .int q)]) hx hb d_L_isYanked_1 rfl hl (by decide) rfl (fun ls hl => ?_)
  refine lv_iconst (v := 0) hx hb d_L_isYanked_2 (by decide) ?_
  refine lv_istore (lv' := [(4, .int 0), (3, .int 0), (0, .ref a), (1, .int o), (2, .int q)]) hx hb d_L_isYanked_3 hl (by decide) rfl (fun ls hl => ?_)
  exact lp_L_isYanked C0 hZ a rows h o q _ (rows.length + 1) 0 false (Nat.zero_le _) (by omega) rfl ls (lv_sub hl [2, 3, 4, 1, 0] rfl)
theorem k_T_mixText_8 : kV "RegistryLog$Tree" 11 "java/lang/String" y_S_length b_S_length 1 (some .int) 0 := ⟨(in_2 (List.mem_of_getElem? (i := 178) rfl) rfl), (in_1 (List.mem_of_getElem? (i := 86) rfl) rfl), (in_1 (List.mem_of_getElem? (i := 87) rfl) rfl), (in_1 (List.mem_of_getElem? (i := 4) rfl) rfl), (in_1 (List.mem_of_getElem? (i := 88) rfl) rfl), ⟨by decide, by decide, by decide +kernel⟩⟩
theorem k_T_mixText_18 : kV "RegistryLog$Tree" 17 "java/lang/String" y_S_charAt b_S_charAt 2 (some .char) 1 := ⟨(in_2 (List.mem_of_getElem? (i := 179) rfl) rfl), (in_1 (List.mem_of_getElem? (i := 95) rfl) rfl), (in_1 (List.mem_of_getElem? (i := 96) rfl) rfl), (in_1 (List.mem_of_getElem? (i := 4) rfl) rfl), (in_1 (List.mem_of_getElem? (i := 97) rfl) rfl), ⟨by decide, by decide, by decide +kernel⟩⟩
theorem k_T_mixText_22 : kS "RegistryLog$Tree" 21 y_T_mix b_T_mix 6 (some .long) 2 := ⟨(in_2 (List.mem_of_getElem? (i := 180) rfl) rfl), (in_2 (List.mem_of_getElem? (i := 172) rfl) rfl), (in_1 (List.mem_of_getElem? (i := 20) rfl) rfl), (in_2 (List.mem_of_getElem? (i := 173) rfl) rfl), ⟨by decide, by decide, by decide +kernel⟩⟩
theorem dropT {t : List Nat} {i : Nat} (h : i < t.length) : t.drop i = t.getD i 0 :: t.drop (i + 1) := by
  rw [List.drop_eq_getElem_cons h, List.getD_eq_getElem?_getD, List.getElem?_eq_getElem h, Option.getD_some]
set_option maxHeartbeats 4000000 in
set_option maxRecDepth 100000 in
theorem lp_T_mixText {p : Program} {l : Launch} {e : Env} {s : State} {m : MethodId} {args : Array Value} {below : List Frame} {meth : Method} {c : Code} {g : gG} (C0 : cF g p s m args meth c b_T_mixText 6 "RegistryLog$Tree" (some .long)) (hZ : zK g s s.heap) (a : Nat) (t : List Nat) (h : isS g s.heap a t) (ht : t.length ≤ 100) (res : Int64) :
    ∀ (n i : Nat) (x : Int64), i ≤ t.length → t.length + 1 ≤ i + n → mixT x (t.drop i) = res → ∀ (ls : Array Slot), lv_has ls 6 [(2, .ref a), (3, .long x), (5, .int (nI i))] → W p l e (rmk 4 0 0 85) s m args below meth c s.heap [] 0 0 (MQ below (qP s.heap (fun v => v = some (.long res))) args s 0 0 no_) (F0 m 5 ls []) := by
  obtain ⟨hx, hb, hml, hown, hts, hr, hlk, hK⟩ := id C0
  intro n
  induction n with
  | zero => intro i x h1 h2; exact absurd h2 (by omega)
  | succ n ih =>
    intro i x hi hin hres ls hl
    refine lv_iload hx hb d_T_mixText_5 (lv_at hl 2 rfl) ?_
    refine lv_aload_n hx hb d_T_mixText_7 rfl (lv_at hl 0 rfl) ?_
    refine aP (rV (As := []) (rest := [.int (nI i)]) C0 (s_len h) hZ k_T_mixText_8 rfl rfl ⟨Nat.le_of_ble_eq_true rfl, Nat.le_of_ble_eq_true rfl⟩ (isS_recv hK h) rfl hl.1 rfl (Nat.le_of_ble_eq_true rfl) d_T_mixText_8 ⟨Nat.zero_le _, Nat.zero_le _⟩) ?_
    intro v hv; subst hv
    refine W.eq (g2 := F0 m 11 ls [.int (nI t.length), .int (nI i)]) rfl ?_
    refine lv_icmp_ge (tgt := 32) hx hb d_T_mixText_11 (by decide) (fun c11 => ?_) (fun c11 => ?_)
    · skip
      refine lv_lload_n hx hb d_T_mixText_32 rfl (lv_at hl 1 rfl) ?_
      have he : i = t.length := by have := (nI_leI (by omega) (by omega)).mp c11; omega
      subst he
      rw [List.drop_length] at hres
      exact W.lret hx hb hr (fun t9 ht hW => ⟨_, rfl, by rw [← hres]; rfl, ht⟩) (fun q h => by cases h) d_T_mixText_33 hlk
    · skip
      have hlt : i < t.length := by rcases Nat.lt_or_ge i t.length with q | q; exact q; exact absurd (nI_le q (by omega)) c11
      refine lv_lload_n hx hb d_T_mixText_14 rfl (lv_at hl 1 rfl) ?_
      refine lv_aload_n hx hb d_T_mixText_15 rfl (lv_at hl 0 rfl) ?_
      refine lv_iload hx hb d_T_mixText_16 (lv_at hl 2 rfl) ?_
      refine aP (rV (As := [.int (nI i)]) (rest := [.long x]) C0 (s_ch h hlt) hZ k_T_mixText_18 rfl rfl ⟨Nat.le_of_ble_eq_true rfl, Nat.le_of_ble_eq_true rfl⟩ (isS_recv hK h) rfl hl.1 rfl (Nat.le_of_ble_eq_true rfl) d_T_mixText_18 ⟨Nat.zero_le _, Nat.zero_le _⟩) ?_
      intro v hv; subst hv
      refine W.eq (g2 := F0 m 21 ls [.int (nI (t.getD i 0)), .long x]) rfl ?_
      refine lv_i2l hx hb d_T_mixText_21 rfl ?_
      refine aP (rS (As := [.long x, .long ((nI (t.getD i 0)).toInt64)]) (rest := []) C0 (c_T_mix l g s.heap x ((nI (t.getD i 0)).toInt64)) hZ k_T_mixText_22 rfl rfl ⟨Nat.le_of_ble_eq_true rfl, Nat.le_of_ble_eq_true rfl⟩ rfl hl.1 rfl (Nat.le_of_ble_eq_true rfl) d_T_mixText_22 ⟨Nat.zero_le _, Nat.zero_le _⟩) ?_
      intro v hv; subst hv
      refine W.eq (g2 := F0 m 25 ls [.long (mixS x ((nI (t.getD i 0)).toInt64))]) rfl ?_
      refine lv_topl (fun x_1 ex_1 => ?_)
      refine lv_lstore_n (lv' := [(3, .long x_1), (2, .ref a), (5, .int (nI i))]) hx hb d_T_mixText_25 rfl hl (by decide) rfl (fun ls hl => ?_)
      obtain ⟨x_2, ex_2⟩ : ∃ y : Int32, y = (nI i) + 1 := ⟨_, rfl⟩
      refine lv_iinc (v := x_2) (lv' := [(5, .int x_2), (3, .long x_1), (2, .ref a)]) hx hb d_T_mixText_26 hl (k := 2) rfl (by rw [ex_2]; rfl) (by decide) rfl (fun ls hl => ?_)
      refine lv_goto (tgt := 5) hx hb d_T_mixText_29 (by decide) ?_
      rw [ex_2, nI_1] at hl
      rw [dropT hlt, mixT, ← ex_1] at hres
      exact ih (i + 1) _ hlt (by omega) hres ls (lv_sub hl [2, 1, 0] rfl)
set_option maxHeartbeats 4000000 in
set_option maxRecDepth 100000 in
/-- mixText -/
theorem c_T_mixText (l : Launch) (g : gG) (H : Heap) (a : Nat) (t : List Nat) (x : Int64) (h : isS g H a t) : Met l y_T_mixText (wC y_T_mixText b_T_mixText 6 (some .long)) (rmk 4 0 0 85) (pC g H [.long x, .ref a]) (qP H (fun v => v = some (.long (mixT x t)))) 0 0 no_ := by
  refine mB (by decide) (Nat.le_of_ble_eq_true rfl) ?_
  intro p e s m below meth c ls C0 hH hZ hnm hl
  have C0 : cF g p s m _ meth c b_T_mixText 6 "RegistryLog$Tree" (some .long) := C0
  obtain ⟨hx, hb, hml, hown, hts, hr, hlk, hK⟩ := id C0
  subst hH
  have hl : lv_has ls 6 [(0, .long x), (2, .ref a)] := hl
  refine lv_lload_n hx hb d_T_mixText_0 rfl (lv_at hl 0 rfl) ?_
  refine lv_lstore_n (lv' := [(3, .long x), (0, .long x), (2, .ref a)]) hx hb d_T_mixText_1 rfl hl (by decide) rfl (fun ls hl => ?_)
  refine lv_iconst (v := 0) hx hb d_T_mixText_2 (by decide) ?_
  refine lv_istore (lv' := [(5, .int 0), (3, .long x), (0, .long x), (2, .ref a)]) hx hb d_T_mixText_3 hl (by decide) rfl (fun ls hl => ?_)
  obtain ⟨_, _, _, _, ht⟩ := id h
  exact lp_T_mixText C0 hZ a t h ht _ (t.length + 1) 0 x (Nat.zero_le _) (by omega) rfl ls (lv_sub hl [3, 1, 0] rfl)
set_option maxHeartbeats 4000000 in
set_option maxRecDepth 100000 in
theorem lp_T_firstPart {p : Program} {l : Launch} {e : Env} {s : State} {m : MethodId} {args : Array Value} {below : List Frame} {meth : Method} {c : Code} {g : gG} (C0 : cF g p s m args meth c b_T_firstPart 3 "RegistryLog$Tree" (some .int)) (n res : Nat) (hn : n ≤ 120) :
    ∀ (b k : Nat), 120 ≤ k * 2 ^ b → k ≤ 119 → fpL b n k = res → ∀ (ls : Array Slot), lv_has ls 3 [(0, .int (nI n)), (1, .int (nI k)), (2, .int (nI (2 * k)))] → W p l e (rmk 0 0 0 0) s m args below meth c s.heap [] 0 0 (MQ below (qP s.heap (fun v => v = some (.int (nI res)))) args s 0 0 no_) (F0 m 4 ls []) := by
  obtain ⟨hx, hb, hml, hown, hts, hr, hlk, hK⟩ := id C0
  intro b
  induction b with
  | zero => intro k h1 h2; exact absurd h1 (by omega)
  | succ b ih =>
    intro k h1 h2 hres ls hl
    refine lv_iload_n hx hb d_T_firstPart_4 rfl (lv_at hl 2 rfl) ?_
    refine lv_iload_n hx hb d_T_firstPart_5 rfl (lv_at hl 0 rfl) ?_
    refine lv_icmp_ge (tgt := 24) hx hb d_T_firstPart_6 (by decide) (fun c6 => ?_) (fun c6 => ?_)
    · skip
      refine lv_iload_n hx hb d_T_firstPart_24 rfl (lv_at hl 1 rfl) ?_
      have hh := (nI_leI (by omega) (by omega)).mp (show nI n ≤ nI (2 * k) from c6)
      rw [fpL, if_neg (by omega)] at hres
      exact W.iret hx hb hr (fun t9 ht hW => ⟨_, rfl, by rw [← hres], ht⟩) (fun q h => by cases h) d_T_firstPart_25 hlk
    · skip
      refine lv_iload_n hx hb d_T_firstPart_9 rfl (lv_at hl 2 rfl) ?_
      refine lv_bipush (v := 120) hx hb d_T_firstPart_10 (by decide) ?_
      refine lv_icmp_ge (tgt := 24) hx hb d_T_firstPart_12 (by decide) (fun c12 => ?_) (fun c12 => ?_)
      · skip
        refine lv_iload_n hx hb d_T_firstPart_24 rfl (lv_at hl 1 rfl) ?_
        have hh := (nI_leI (by omega) (by omega)).mp (show nI 120 ≤ nI (2 * k) from c12)
        rw [fpL, if_neg (by omega)] at hres
        exact W.iret hx hb hr (fun t9 ht hW => ⟨_, rfl, by rw [← hres], ht⟩) (fun q h => by cases h) d_T_firstPart_25 hlk
      · skip
        refine lv_iload_n hx hb d_T_firstPart_15 rfl (lv_at hl 2 rfl) ?_
        refine lv_istore_n (lv' := [(1, .int (nI (2 * k))), (0, .int (nI n)), (2, .int (nI (2 * k)))]) hx hb d_T_firstPart_16 rfl hl (by decide) rfl (fun ls hl => ?_)
        refine lv_iload_n hx hb d_T_firstPart_17 rfl (lv_at hl 2 rfl) ?_
        refine lv_iconst (v := 2) hx hb d_T_firstPart_18 (by decide) ?_
        refine lv_imul hx hb d_T_firstPart_19 ?_
        refine lv_topi (fun x_1 ex_1 => ?_)
        refine lv_istore_n (lv' := [(2, .int x_1), (1, .int (nI (2 * k))), (0, .int (nI n))]) hx hb d_T_firstPart_20 rfl hl (by decide) rfl (fun ls hl => ?_)
        refine lv_goto (tgt := 4) hx hb d_T_firstPart_21 (by decide) ?_
        have c6 : 2 * k < n := by rcases Nat.lt_or_ge (2 * k) n with q | q; exact q; exact absurd (nI_le q (by omega)) c6
        have c12 : 2 * k < 120 := by rcases Nat.lt_or_ge (2 * k) 120 with q | q; exact q; exact absurd (show nI 120 ≤ nI (2 * k) from nI_le q (by omega)) c12
        have e9 : x_1 = nI (2 * (2 * k)) := by rw [ex_1, show (2 : Int32) = nI 2 from rfl, pk_mul]; congr 1; omega
        rw [e9] at hl
        rw [fpL, if_pos ⟨c6, c12⟩] at hres
        exact ih (2 * k) (by rw [Nat.pow_succ] at h1; have := h1; rw [show 2 * k * 2 ^ b = k * (2 ^ b * 2) by rw [Nat.mul_comm (2 ^ b) 2, ← Nat.mul_assoc, Nat.mul_comm k 2]]; exact this) (by omega) hres ls (lv_sub hl [2, 1, 0] rfl)
set_option maxHeartbeats 4000000 in
set_option maxRecDepth 100000 in
/-- firstPart -/
theorem c_T_firstPart (l : Launch) (g : gG) (H : Heap) (n : Nat) (hn : n ≤ 120) : Met l y_T_firstPart (wC y_T_firstPart b_T_firstPart 3 (some .int)) (rmk 0 0 0 0) (pC g H [.int (nI n)]) (qP H (fun v => v = some (.int (nI (fpS n))))) 0 0 no_ := by
  refine mB (by decide) (Nat.le_of_ble_eq_true rfl) ?_
  intro p e s m below meth c ls C0 hH hZ hnm hl
  have C0 : cF g p s m _ meth c b_T_firstPart 3 "RegistryLog$Tree" (some .int) := C0
  obtain ⟨hx, hb, hml, hown, hts, hr, hlk, hK⟩ := id C0
  subst hH
  have hl : lv_has ls 3 [(0, .int (nI n))] := hl
  refine lv_iconst (v := 1) hx hb d_T_firstPart_0 (by decide) ?_
  refine lv_istore_n (lv' := [(1, .int 1), (0, .int (nI n))]) hx hb d_T_firstPart_1 rfl hl (by decide) rfl (fun ls hl => ?_)
  refine lv_iconst (v := 2) hx hb d_T_firstPart_2 (by decide) ?_
  refine lv_istore_n (lv' := [(2, .int 2), (1, .int 1), (0, .int (nI n))]) hx hb d_T_firstPart_3 rfl hl (by decide) rfl (fun ls hl => ?_)
  exact lp_T_firstPart C0 n _ hn 8 1 (by decide) (by decide) rfl ls (lv_sub hl [2, 1, 0] rfl)
theorem k_N_commonBeginning_1 : kV "RegistryLog$Name" 22 "java/lang/String" y_S_length b_S_length 1 (some .int) 0 := ⟨(in_1 (List.mem_of_getElem? (i := 85) rfl) rfl), (in_1 (List.mem_of_getElem? (i := 86) rfl) rfl), (in_1 (List.mem_of_getElem? (i := 87) rfl) rfl), (in_1 (List.mem_of_getElem? (i := 4) rfl) rfl), (in_1 (List.mem_of_getElem? (i := 88) rfl) rfl), ⟨by decide, by decide, by decide +kernel⟩⟩
theorem k_N_commonBeginning_5 : kV "RegistryLog$Name" 22 "java/lang/String" y_S_length b_S_length 1 (some .int) 0 := ⟨(in_1 (List.mem_of_getElem? (i := 85) rfl) rfl), (in_1 (List.mem_of_getElem? (i := 86) rfl) rfl), (in_1 (List.mem_of_getElem? (i := 87) rfl) rfl), (in_1 (List.mem_of_getElem? (i := 4) rfl) rfl), (in_1 (List.mem_of_getElem? (i := 88) rfl) rfl), ⟨by decide, by decide, by decide +kernel⟩⟩
theorem k_N_commonBeginning_21 : kV "RegistryLog$Name" 28 "java/lang/String" y_S_charAt b_S_charAt 2 (some .char) 1 := ⟨(in_1 (List.mem_of_getElem? (i := 94) rfl) rfl), (in_1 (List.mem_of_getElem? (i := 95) rfl) rfl), (in_1 (List.mem_of_getElem? (i := 96) rfl) rfl), (in_1 (List.mem_of_getElem? (i := 4) rfl) rfl), (in_1 (List.mem_of_getElem? (i := 97) rfl) rfl), ⟨by decide, by decide, by decide +kernel⟩⟩
theorem k_N_commonBeginning_26 : kV "RegistryLog$Name" 28 "java/lang/String" y_S_charAt b_S_charAt 2 (some .char) 1 := ⟨(in_1 (List.mem_of_getElem? (i := 94) rfl) rfl), (in_1 (List.mem_of_getElem? (i := 95) rfl) rfl), (in_1 (List.mem_of_getElem? (i := 96) rfl) rfl), (in_1 (List.mem_of_getElem? (i := 4) rfl) rfl), (in_1 (List.mem_of_getElem? (i := 97) rfl) rfl), ⟨by decide, by decide, by decide +kernel⟩⟩
theorem mn_ {a b : Nat} (ha : a < 2 ^ 31) (hb : b < 2 ^ 31) : (if nI b < nI a then nI b else nI a) = nI (min a b) := by
  by_cases h : b < a
  · rw [if_pos (nI_lt h ha), Nat.min_eq_right (by omega)]
  · rw [if_neg (nI_nlt (by omega) (by omega)), Nat.min_eq_left (by omega)]
theorem mx_ {a b : Nat} (ha : a < 2 ^ 31) (hb : b < 2 ^ 31) : (if nI a < nI b then nI b else nI a) = nI (max a b) := by
  by_cases h : a < b
  · rw [if_pos (nI_lt h hb), Nat.max_eq_right (by omega)]
  · rw [if_neg (nI_nlt (by omega) (by omega)), Nat.max_eq_left (by omega)]
theorem gd_lt {t : List Nat} (h : ∀ c ∈ t, c < 128) (i : Nat) : t.getD i 0 < 2 ^ 31 := Nat.lt_trans (ch_lt h i) (by decide)
theorem rev_at {t : List Nat} {i : Nat} (h : i < t.length) : t.reverse.getD i 0 = t.getD (t.length - 1 - i) 0 := by
  rw [List.getD_eq_getElem?_getD, List.getD_eq_getElem?_getD, List.getElem?_reverse h]
theorem cb_end {t u : List Nat} {i : Nat} (h : min t.length u.length ≤ i) : cbS (t.drop i) (u.drop i) = 0 := by
  rcases (show t.length ≤ i ∨ u.length ≤ i by omega) with q | q
  · rw [List.drop_eq_nil_of_le q]; unfold cbS; rfl
  · rw [List.drop_eq_nil_of_le q]; cases t.drop i <;> rfl
set_option maxHeartbeats 4000000 in
set_option maxRecDepth 100000 in
theorem lp_N_commonBeginning {p : Program} {l : Launch} {e : Env} {s : State} {m : MethodId} {args : Array Value} {below : List Frame} {meth : Method} {c : Code} {g : gG} (C0 : cF g p s m args meth c b_N_commonBeginning 4 "RegistryLog$Name" (some .int)) (hZ : zK g s s.heap) (a b : Nat) (t u : List Nat) (h : isS g s.heap a t) (h2 : isS g s.heap b u) (hc1 : ∀ c ∈ t, c < 128) (hn1 : t.length ≤ 100) (hc2 : ∀ c ∈ u, c < 128) (hn2 : u.length ≤ 100) (res : Nat) :
    ∀ (n i : Nat), i ≤ (min t.length u.length) → (min t.length u.length) + 1 ≤ i + n → cbS (t.drop i) (u.drop i) + i = res → ∀ (ls : Array Slot), lv_has ls 4 [(0, .ref a), (1, .ref b), (2, .int (nI (min t.length u.length))), (3, .int (nI i))] → W p l e (rmk 4 0 0 85) s m args below meth c s.heap [] 0 0 (MQ below (qP s.heap (fun v => v = some (.int (nI res)))) args s 0 0 no_) (F0 m 14 ls []) := by
  obtain ⟨hx, hb, hml, hown, hts, hr, hlk, hK⟩ := id C0
  intro n
  induction n with
  | zero => intro i h1 h2; exact absurd h2 (by omega)
  | succ n ih =>
    intro i hi hin hres ls hl
    refine lv_iload_n hx hb d_N_commonBeginning_14 rfl (lv_at hl 3 rfl) ?_
    refine lv_iload_n hx hb d_N_commonBeginning_15 rfl (lv_at hl 2 rfl) ?_
    refine lv_icmp_ge (tgt := 40) hx hb d_N_commonBeginning_16 (by decide) (fun c16 => ?_) (fun c16 => ?_)
    · skip
      refine lv_iload_n hx hb d_N_commonBeginning_40 rfl (lv_at hl 2 rfl) ?_
      have hh := (nI_leI (by omega) (by omega)).mp c16
      rw [cb_end hh] at hres
      have e9 : min t.length u.length = res := by omega
      exact W.iret hx hb hr (fun t9 ht hW => ⟨_, rfl, by rw [e9], ht⟩) (fun q h => by cases h) d_N_commonBeginning_41 hlk
    · skip
      have hlt : i < min t.length u.length := by rcases Nat.lt_or_ge i (min t.length u.length) with q | q; exact q; exact absurd (nI_le q (by omega)) c16
      have hlt1 : i < t.length := by omega
      have hlt2 : i < u.length := by omega
      refine lv_aload_n hx hb d_N_commonBeginning_19 rfl (lv_at hl 0 rfl) ?_
      refine lv_iload_n hx hb d_N_commonBeginning_20 rfl (lv_at hl 3 rfl) ?_
      refine aP (rV (As := [.int (nI i)]) (rest := []) C0 (s_ch h hlt1) hZ k_N_commonBeginning_21 rfl rfl ⟨Nat.le_of_ble_eq_true rfl, Nat.le_of_ble_eq_true rfl⟩ (isS_recv hK h) rfl hl.1 rfl (Nat.le_of_ble_eq_true rfl) d_N_commonBeginning_21 ⟨Nat.zero_le _, Nat.zero_le _⟩) ?_
      intro v hv; subst hv
      refine W.eq (g2 := F0 m 24 ls [.int (nI (t.getD i 0))]) rfl ?_
      refine lv_aload_n hx hb d_N_commonBeginning_24 rfl (lv_at hl 1 rfl) ?_
      refine lv_iload_n hx hb d_N_commonBeginning_25 rfl (lv_at hl 3 rfl) ?_
      refine aP (rV (As := [.int (nI i)]) (rest := [.int (nI (t.getD i 0))]) C0 (s_ch h2 hlt2) hZ k_N_commonBeginning_26 rfl rfl ⟨Nat.le_of_ble_eq_true rfl, Nat.le_of_ble_eq_true rfl⟩ (isS_recv hK h2) rfl hl.1 rfl (Nat.le_of_ble_eq_true rfl) d_N_commonBeginning_26 ⟨Nat.zero_le _, Nat.zero_le _⟩) ?_
      intro v hv; subst hv
      refine W.eq (g2 := F0 m 29 ls [.int (nI (u.getD i 0)), .int (nI (t.getD i 0))]) rfl ?_
      refine lv_icmp_eq (tgt := 34) hx hb d_N_commonBeginning_29 (by decide) (fun c29 => ?_) (fun c29 => ?_)
      · skip
        obtain ⟨x_1, ex_1⟩ : ∃ y : Int32, y = (nI i) + 1 := ⟨_, rfl⟩
        refine lv_iinc (v := x_1) (lv' := [(3, .int x_1), (0, .ref a), (1, .ref b), (2, .int (nI (min t.length u.length)))]) hx hb d_N_commonBeginning_34 hl (k := 3) rfl (by rw [ex_1]; rfl) (by decide) rfl (fun ls hl => ?_)
        refine lv_goto (tgt := 14) hx hb d_N_commonBeginning_37 (by decide) ?_
        rw [ex_1, nI_1] at hl
        have ce := (nI_eq (gd_lt hc1 _) (gd_lt hc2 _)).mp c29
        rw [dropT hlt1, dropT hlt2, cbS] at hres
        rw [if_pos ce] at hres
        exact ih (i + 1) (by omega) (by omega) (by omega) ls (lv_sub hl [1, 2, 3, 0] rfl)
      · skip
        refine lv_iload_n hx hb d_N_commonBeginning_32 rfl (lv_at hl 3 rfl) ?_
        have ce : ¬ _ := fun z => c29 (congrArg nI z)
        rw [dropT hlt1, dropT hlt2, cbS] at hres
        rw [if_neg ce] at hres
        have e9 : i = res := by omega
        exact W.iret hx hb hr (fun t9 ht hW => ⟨_, rfl, by rw [e9], ht⟩) (fun q h => by cases h) d_N_commonBeginning_33 hlk
set_option maxHeartbeats 4000000 in
set_option maxRecDepth 100000 in
/-- commonBeginning -/
theorem c_N_commonBeginning (l : Launch) (g : gG) (H : Heap) (a b : Nat) (t u : List Nat) (h : isS g H a t) (h2 : isS g H b u) : Met l y_N_commonBeginning (wC y_N_commonBeginning b_N_commonBeginning 4 (some .int)) (rmk 4 0 0 85) (pC g H [.ref a, .ref b]) (qP H (fun v => v = some (.int (nI (cbS t u))))) 0 0 no_ := by
  refine mB (by decide) (Nat.le_of_ble_eq_true rfl) ?_
  intro p e s m below meth c ls C0 hH hZ hnm hl
  have C0 : cF g p s m _ meth c b_N_commonBeginning 4 "RegistryLog$Name" (some .int) := C0
  obtain ⟨hx, hb, hml, hown, hts, hr, hlk, hK⟩ := id C0
  subst hH
  have hl : lv_has ls 4 [(0, .ref a), (1, .ref b)] := hl
  obtain ⟨_, _, _, hc1, hn1⟩ := id h
  obtain ⟨_, _, _, hc2, hn2⟩ := id h2
  refine lv_aload_n hx hb d_N_commonBeginning_0 rfl (lv_at hl 0 rfl) ?_
  refine aP (rV (As := []) (rest := []) C0 (s_len h) hZ k_N_commonBeginning_1 rfl rfl ⟨Nat.le_of_ble_eq_true rfl, Nat.le_of_ble_eq_true rfl⟩ (isS_recv hK h) rfl hl.1 rfl (Nat.le_of_ble_eq_true rfl) d_N_commonBeginning_1 ⟨Nat.zero_le _, Nat.zero_le _⟩) ?_
  intro v hv; subst hv
  refine W.eq (g2 := F0 m 4 ls [.int (nI t.length)]) rfl ?_
  refine lv_aload_n hx hb d_N_commonBeginning_4 rfl (lv_at hl 1 rfl) ?_
  refine aP (rV (As := []) (rest := [.int (nI t.length)]) C0 (s_len h2) hZ k_N_commonBeginning_5 rfl rfl ⟨Nat.le_of_ble_eq_true rfl, Nat.le_of_ble_eq_true rfl⟩ (isS_recv hK h2) rfl hl.1 rfl (Nat.le_of_ble_eq_true rfl) d_N_commonBeginning_5 ⟨Nat.zero_le _, Nat.zero_le _⟩) ?_
  intro v hv; subst hv
  refine W.eq (g2 := F0 m 8 ls [.int (nI u.length), .int (nI t.length)]) rfl ?_
  refine va_mmin hx hb (by rw [hml]; exact hl.1.symm) hown (hts _ (in_4 (List.mem_of_getElem? (i := 77) rfl) rfl)) (hts _ (in_1 (List.mem_of_getElem? (i := 169) rfl) rfl)) (hts _ (in_1 (List.mem_of_getElem? (i := 11) rfl) rfl)) (hts _ (in_1 (List.mem_of_getElem? (i := 170) rfl) rfl)) (Nat.le_of_ble_eq_true rfl) (Nat.le_of_ble_eq_true rfl) (Nat.zero_le _) (Nat.zero_le _) d_N_commonBeginning_8 ?_
  rw [show (if nI u.length < nI t.length then nI u.length else nI t.length) = nI (min t.length u.length) from mn_ (by omega) (by omega)]
  refine lv_istore_n (lv' := [(2, .int (nI (min t.length u.length))), (0, .ref a), (1, .ref b)]) hx hb d_N_commonBeginning_11 rfl hl (by decide) rfl (fun ls hl => ?_)
  refine lv_iconst (v := 0) hx hb d_N_commonBeginning_12 (by decide) ?_
  refine lv_istore_n (lv' := [(3, .int 0), (2, .int (nI (min t.length u.length))), (0, .ref a), (1, .ref b)]) hx hb d_N_commonBeginning_13 rfl hl (by decide) rfl (fun ls hl => ?_)
  exact lp_N_commonBeginning C0 hZ a b t u h h2 hc1 hn1 hc2 hn2 _ (min t.length u.length + 1) 0 (Nat.zero_le _) (by omega) rfl ls (lv_sub hl [2, 3, 1, 0] rfl)
theorem k_N_commonEnd_1 : kV "RegistryLog$Name" 22 "java/lang/String" y_S_length b_S_length 1 (some .int) 0 := ⟨(in_1 (List.mem_of_getElem? (i := 85) rfl) rfl), (in_1 (List.mem_of_getElem? (i := 86) rfl) rfl), (in_1 (List.mem_of_getElem? (i := 87) rfl) rfl), (in_1 (List.mem_of_getElem? (i := 4) rfl) rfl), (in_1 (List.mem_of_getElem? (i := 88) rfl) rfl), ⟨by decide, by decide, by decide +kernel⟩⟩
theorem k_N_commonEnd_5 : kV "RegistryLog$Name" 22 "java/lang/String" y_S_length b_S_length 1 (some .int) 0 := ⟨(in_1 (List.mem_of_getElem? (i := 85) rfl) rfl), (in_1 (List.mem_of_getElem? (i := 86) rfl) rfl), (in_1 (List.mem_of_getElem? (i := 87) rfl) rfl), (in_1 (List.mem_of_getElem? (i := 4) rfl) rfl), (in_1 (List.mem_of_getElem? (i := 88) rfl) rfl), ⟨by decide, by decide, by decide +kernel⟩⟩
theorem k_N_commonEnd_21 : kV "RegistryLog$Name" 22 "java/lang/String" y_S_length b_S_length 1 (some .int) 0 := ⟨(in_1 (List.mem_of_getElem? (i := 85) rfl) rfl), (in_1 (List.mem_of_getElem? (i := 86) rfl) rfl), (in_1 (List.mem_of_getElem? (i := 87) rfl) rfl), (in_1 (List.mem_of_getElem? (i := 4) rfl) rfl), (in_1 (List.mem_of_getElem? (i := 88) rfl) rfl), ⟨by decide, by decide, by decide +kernel⟩⟩
theorem k_N_commonEnd_28 : kV "RegistryLog$Name" 28 "java/lang/String" y_S_charAt b_S_charAt 2 (some .char) 1 := ⟨(in_1 (List.mem_of_getElem? (i := 94) rfl) rfl), (in_1 (List.mem_of_getElem? (i := 95) rfl) rfl), (in_1 (List.mem_of_getElem? (i := 96) rfl) rfl), (in_1 (List.mem_of_getElem? (i := 4) rfl) rfl), (in_1 (List.mem_of_getElem? (i := 97) rfl) rfl), ⟨by decide, by decide, by decide +kernel⟩⟩
theorem k_N_commonEnd_33 : kV "RegistryLog$Name" 22 "java/lang/String" y_S_length b_S_length 1 (some .int) 0 := ⟨(in_1 (List.mem_of_getElem? (i := 85) rfl) rfl), (in_1 (List.mem_of_getElem? (i := 86) rfl) rfl), (in_1 (List.mem_of_getElem? (i := 87) rfl) rfl), (in_1 (List.mem_of_getElem? (i := 4) rfl) rfl), (in_1 (List.mem_of_getElem? (i := 88) rfl) rfl), ⟨by decide, by decide, by decide +kernel⟩⟩
theorem k_N_commonEnd_40 : kV "RegistryLog$Name" 28 "java/lang/String" y_S_charAt b_S_charAt 2 (some .char) 1 := ⟨(in_1 (List.mem_of_getElem? (i := 94) rfl) rfl), (in_1 (List.mem_of_getElem? (i := 95) rfl) rfl), (in_1 (List.mem_of_getElem? (i := 96) rfl) rfl), (in_1 (List.mem_of_getElem? (i := 4) rfl) rfl), (in_1 (List.mem_of_getElem? (i := 97) rfl) rfl), ⟨by decide, by decide, by decide +kernel⟩⟩
set_option maxHeartbeats 4000000 in
set_option maxRecDepth 100000 in
theorem lp_N_commonEnd {p : Program} {l : Launch} {e : Env} {s : State} {m : MethodId} {args : Array Value} {below : List Frame} {meth : Method} {c : Code} {g : gG} (C0 : cF g p s m args meth c b_N_commonEnd 4 "RegistryLog$Name" (some .int)) (hZ : zK g s s.heap) (a b : Nat) (t u : List Nat) (h : isS g s.heap a t) (h2 : isS g s.heap b u) (hc1 : ∀ c ∈ t, c < 128) (hn1 : t.length ≤ 100) (hc2 : ∀ c ∈ u, c < 128) (hn2 : u.length ≤ 100) (res : Nat) :
    ∀ (n i : Nat), i ≤ (min t.length u.length) → (min t.length u.length) + 1 ≤ i + n → cbS (t.reverse.drop i) (u.reverse.drop i) + i = res → ∀ (ls : Array Slot), lv_has ls 4 [(0, .ref a), (1, .ref b), (2, .int (nI (min t.length u.length))), (3, .int (nI i))] → W p l e (rmk 4 0 0 85) s m args below meth c s.heap [] 0 0 (MQ below (qP s.heap (fun v => v = some (.int (nI res)))) args s 0 0 no_) (F0 m 14 ls []) := by
  obtain ⟨hx, hb, hml, hown, hts, hr, hlk, hK⟩ := id C0
  intro n
  induction n with
  | zero => intro i h1 h2; exact absurd h2 (by omega)
  | succ n ih =>
    intro i hi hin hres ls hl
    refine lv_iload_n hx hb d_N_commonEnd_14 rfl (lv_at hl 3 rfl) ?_
    refine lv_iload_n hx hb d_N_commonEnd_15 rfl (lv_at hl 2 rfl) ?_
    refine lv_icmp_ge (tgt := 54) hx hb d_N_commonEnd_16 (by decide) (fun c16 => ?_) (fun c16 => ?_)
    · skip
      refine lv_iload_n hx hb d_N_commonEnd_54 rfl (lv_at hl 2 rfl) ?_
      have hh := (nI_leI (by omega) (by omega)).mp c16
      rw [cb_end (by rw [List.length_reverse, List.length_reverse]; exact hh)] at hres
      have e9 : min t.length u.length = res := by omega
      exact W.iret hx hb hr (fun t9 ht hW => ⟨_, rfl, by rw [e9], ht⟩) (fun q h => by cases h) d_N_commonEnd_55 hlk
    · skip
      have hlt : i < min t.length u.length := by rcases Nat.lt_or_ge i (min t.length u.length) with q | q; exact q; exact absurd (nI_le q (by omega)) c16
      have hlt1 : i < t.length := by omega
      have hlt2 : i < u.length := by omega
      refine lv_aload_n hx hb d_N_commonEnd_19 rfl (lv_at hl 0 rfl) ?_
      refine lv_aload_n hx hb d_N_commonEnd_20 rfl (lv_at hl 0 rfl) ?_
      refine aP (rV (As := []) (rest := [.ref a]) C0 (s_len h) hZ k_N_commonEnd_21 rfl rfl ⟨Nat.le_of_ble_eq_true rfl, Nat.le_of_ble_eq_true rfl⟩ (isS_recv hK h) rfl hl.1 rfl (Nat.le_of_ble_eq_true rfl) d_N_commonEnd_21 ⟨Nat.zero_le _, Nat.zero_le _⟩) ?_
      intro v hv; subst hv
      refine W.eq (g2 := F0 m 24 ls [.int (nI t.length), .ref a]) rfl ?_
      refine lv_iconst (v := 1) hx hb d_N_commonEnd_24 (by decide) ?_
      refine lv_isub hx hb d_N_commonEnd_25 ?_
      refine lv_iload_n hx hb d_N_commonEnd_26 rfl (lv_at hl 3 rfl) ?_
      refine lv_isub hx hb d_N_commonEnd_27 ?_
      rw [show (((nI t.length) - 1) - (nI i)) = nI (t.length - 1 - i) from by rw [show (1 : Int32) = nI 1 from rfl, pk_sub (by omega), pk_sub (by omega)]]
      refine aP (rV (As := [.int (nI (t.length - 1 - i))]) (rest := []) C0 (s_ch h (by omega)) hZ k_N_commonEnd_28 rfl rfl ⟨Nat.le_of_ble_eq_true rfl, Nat.le_of_ble_eq_true rfl⟩ (isS_recv hK h) rfl hl.1 rfl (Nat.le_of_ble_eq_true rfl) d_N_commonEnd_28 ⟨Nat.zero_le _, Nat.zero_le _⟩) ?_
      intro v hv; subst hv
      refine W.eq (g2 := F0 m 31 ls [.int (nI (t.getD (t.length - 1 - i) 0))]) rfl ?_
      refine lv_aload_n hx hb d_N_commonEnd_31 rfl (lv_at hl 1 rfl) ?_
      refine lv_aload_n hx hb d_N_commonEnd_32 rfl (lv_at hl 1 rfl) ?_
      refine aP (rV (As := []) (rest := [.ref b, .int (nI (t.getD (t.length - 1 - i) 0))]) C0 (s_len h2) hZ k_N_commonEnd_33 rfl rfl ⟨Nat.le_of_ble_eq_true rfl, Nat.le_of_ble_eq_true rfl⟩ (isS_recv hK h2) rfl hl.1 rfl (Nat.le_of_ble_eq_true rfl) d_N_commonEnd_33 ⟨Nat.zero_le _, Nat.zero_le _⟩) ?_
      intro v hv; subst hv
      refine W.eq (g2 := F0 m 36 ls [.int (nI u.length), .ref b, .int (nI (t.getD (t.length - 1 - i) 0))]) rfl ?_
      refine lv_iconst (v := 1) hx hb d_N_commonEnd_36 (by decide) ?_
      refine lv_isub hx hb d_N_commonEnd_37 ?_
      refine lv_iload_n hx hb d_N_commonEnd_38 rfl (lv_at hl 3 rfl) ?_
      refine lv_isub hx hb d_N_commonEnd_39 ?_
      rw [show (((nI u.length) - 1) - (nI i)) = nI (u.length - 1 - i) from by rw [show (1 : Int32) = nI 1 from rfl, pk_sub (by omega), pk_sub (by omega)]]
      refine aP (rV (As := [.int (nI (u.length - 1 - i))]) (rest := [.int (nI (t.getD (t.length - 1 - i) 0))]) C0 (s_ch h2 (by omega)) hZ k_N_commonEnd_40 rfl rfl ⟨Nat.le_of_ble_eq_true rfl, Nat.le_of_ble_eq_true rfl⟩ (isS_recv hK h2) rfl hl.1 rfl (Nat.le_of_ble_eq_true rfl) d_N_commonEnd_40 ⟨Nat.zero_le _, Nat.zero_le _⟩) ?_
      intro v hv; subst hv
      refine W.eq (g2 := F0 m 43 ls [.int (nI (u.getD (u.length - 1 - i) 0)), .int (nI (t.getD (t.length - 1 - i) 0))]) rfl ?_
      refine lv_icmp_eq (tgt := 48) hx hb d_N_commonEnd_43 (by decide) (fun c43 => ?_) (fun c43 => ?_)
      · skip
        obtain ⟨x_1, ex_1⟩ : ∃ y : Int32, y = (nI i) + 1 := ⟨_, rfl⟩
        refine lv_iinc (v := x_1) (lv' := [(3, .int x_1), (0, .ref a), (1, .ref b), (2, .int (nI (min t.length u.length)))]) hx hb d_N_commonEnd_48 hl (k := 3) rfl (by rw [ex_1]; rfl) (by decide) rfl (fun ls hl => ?_)
        refine lv_goto (tgt := 14) hx hb d_N_commonEnd_51 (by decide) ?_
        rw [ex_1, nI_1] at hl
        have ce := (nI_eq (gd_lt hc1 _) (gd_lt hc2 _)).mp c43
        rw [dropT (t := t.reverse) (by rw [List.length_reverse]; exact hlt1), dropT (t := u.reverse) (by rw [List.length_reverse]; exact hlt2), cbS, rev_at hlt1, rev_at hlt2] at hres
        rw [if_pos ce] at hres
        exact ih (i + 1) (by omega) (by omega) (by omega) ls (lv_sub hl [1, 2, 3, 0] rfl)
      · skip
        refine lv_iload_n hx hb d_N_commonEnd_46 rfl (lv_at hl 3 rfl) ?_
        have ce : ¬ _ := fun z => c43 (congrArg nI z)
        rw [dropT (t := t.reverse) (by rw [List.length_reverse]; exact hlt1), dropT (t := u.reverse) (by rw [List.length_reverse]; exact hlt2), cbS, rev_at hlt1, rev_at hlt2] at hres
        rw [if_neg ce] at hres
        have e9 : i = res := by omega
        exact W.iret hx hb hr (fun t9 ht hW => ⟨_, rfl, by rw [e9], ht⟩) (fun q h => by cases h) d_N_commonEnd_47 hlk
set_option maxHeartbeats 4000000 in
set_option maxRecDepth 100000 in
/-- commonEnd -/
theorem c_N_commonEnd (l : Launch) (g : gG) (H : Heap) (a b : Nat) (t u : List Nat) (h : isS g H a t) (h2 : isS g H b u) : Met l y_N_commonEnd (wC y_N_commonEnd b_N_commonEnd 4 (some .int)) (rmk 4 0 0 85) (pC g H [.ref a, .ref b]) (qP H (fun v => v = some (.int (nI (cbS t.reverse u.reverse))))) 0 0 no_ := by
  refine mB (by decide) (Nat.le_of_ble_eq_true rfl) ?_
  intro p e s m below meth c ls C0 hH hZ hnm hl
  have C0 : cF g p s m _ meth c b_N_commonEnd 4 "RegistryLog$Name" (some .int) := C0
  obtain ⟨hx, hb, hml, hown, hts, hr, hlk, hK⟩ := id C0
  subst hH
  have hl : lv_has ls 4 [(0, .ref a), (1, .ref b)] := hl
  obtain ⟨_, _, _, hc1, hn1⟩ := id h
  obtain ⟨_, _, _, hc2, hn2⟩ := id h2
  refine lv_aload_n hx hb d_N_commonEnd_0 rfl (lv_at hl 0 rfl) ?_
  refine aP (rV (As := []) (rest := []) C0 (s_len h) hZ k_N_commonEnd_1 rfl rfl ⟨Nat.le_of_ble_eq_true rfl, Nat.le_of_ble_eq_true rfl⟩ (isS_recv hK h) rfl hl.1 rfl (Nat.le_of_ble_eq_true rfl) d_N_commonEnd_1 ⟨Nat.zero_le _, Nat.zero_le _⟩) ?_
  intro v hv; subst hv
  refine W.eq (g2 := F0 m 4 ls [.int (nI t.length)]) rfl ?_
  refine lv_aload_n hx hb d_N_commonEnd_4 rfl (lv_at hl 1 rfl) ?_
  refine aP (rV (As := []) (rest := [.int (nI t.length)]) C0 (s_len h2) hZ k_N_commonEnd_5 rfl rfl ⟨Nat.le_of_ble_eq_true rfl, Nat.le_of_ble_eq_true rfl⟩ (isS_recv hK h2) rfl hl.1 rfl (Nat.le_of_ble_eq_true rfl) d_N_commonEnd_5 ⟨Nat.zero_le _, Nat.zero_le _⟩) ?_
  intro v hv; subst hv
  refine W.eq (g2 := F0 m 8 ls [.int (nI u.length), .int (nI t.length)]) rfl ?_
  refine va_mmin hx hb (by rw [hml]; exact hl.1.symm) hown (hts _ (in_4 (List.mem_of_getElem? (i := 77) rfl) rfl)) (hts _ (in_1 (List.mem_of_getElem? (i := 169) rfl) rfl)) (hts _ (in_1 (List.mem_of_getElem? (i := 11) rfl) rfl)) (hts _ (in_1 (List.mem_of_getElem? (i := 170) rfl) rfl)) (Nat.le_of_ble_eq_true rfl) (Nat.le_of_ble_eq_true rfl) (Nat.zero_le _) (Nat.zero_le _) d_N_commonEnd_8 ?_
  rw [show (if nI u.length < nI t.length then nI u.length else nI t.length) = nI (min t.length u.length) from mn_ (by omega) (by omega)]
  refine lv_istore_n (lv' := [(2, .int (nI (min t.length u.length))), (0, .ref a), (1, .ref b)]) hx hb d_N_commonEnd_11 rfl hl (by decide) rfl (fun ls hl => ?_)
  refine lv_iconst (v := 0) hx hb d_N_commonEnd_12 (by decide) ?_
  refine lv_istore_n (lv' := [(3, .int 0), (2, .int (nI (min t.length u.length))), (0, .ref a), (1, .ref b)]) hx hb d_N_commonEnd_13 rfl hl (by decide) rfl (fun ls hl => ?_)
  exact lp_N_commonEnd C0 hZ a b t u h h2 hc1 hn1 hc2 hn2 _ (min t.length u.length + 1) 0 (Nat.zero_le _) (by omega) rfl ls (lv_sub hl [2, 3, 1, 0] rfl)
end
section
theorem cbS_le : ∀ (t u : List Nat), cbS t u ≤ t.length
  | [], u => by unfold cbS; exact Nat.zero_le _
  | x :: t, [] => by unfold cbS; exact Nat.zero_le _
  | x :: t, y :: u => by
    unfold cbS
    split
    · have := cbS_le t u; simp only [List.length_cons]; omega
    · exact Nat.zero_le _
theorem ab_ {a b : Nat} (ha : a < 2 ^ 30) (hb : b < 2 ^ 30) : (if 0 ≤ nI a - nI b then nI a - nI b else 0 - (nI a - nI b)) = nI (if b ≤ a then a - b else b - a) := by
  by_cases h : b ≤ a
  · rw [if_pos h, pk_sub h, if_pos (nI_pos' (by omega))]
  · have h2 : nI a - nI b < 0 := pk_sneg hb (by omega)
    rw [if_neg h, if_neg (Int32.not_le.mpr h2), Int32.zero_sub, Int32.neg_sub, pk_sub (by omega)]
/-- NAMES -/
def nmS : List Nat → Bool → Bool
  | [], b => b
  | c :: t, b => if 97 ≤ c ∧ c ≤ 122 then nmS t true else if c = 45 ∧ b = true then nmS t false else false
def nameS (t : List Nat) : Bool := decide (1 ≤ t.length ∧ t.length ≤ 10) && nmS t false

theorem k_N_isNear_4 : kV "RegistryLog$Name" 22 "java/lang/String" y_S_length b_S_length 1 (some .int) 0 := ⟨(in_1 (List.mem_of_getElem? (i := 85) rfl) rfl), (in_1 (List.mem_of_getElem? (i := 86) rfl) rfl), (in_1 (List.mem_of_getElem? (i := 87) rfl) rfl), (in_1 (List.mem_of_getElem? (i := 4) rfl) rfl), (in_1 (List.mem_of_getElem? (i := 88) rfl) rfl), ⟨by decide, by decide, by decide +kernel⟩⟩
theorem k_N_isNear_12 : kV "RegistryLog$Name" 22 "java/lang/String" y_S_length b_S_length 1 (some .int) 0 := ⟨(in_1 (List.mem_of_getElem? (i := 85) rfl) rfl), (in_1 (List.mem_of_getElem? (i := 86) rfl) rfl), (in_1 (List.mem_of_getElem? (i := 87) rfl) rfl), (in_1 (List.mem_of_getElem? (i := 4) rfl) rfl), (in_1 (List.mem_of_getElem? (i := 88) rfl) rfl), ⟨by decide, by decide, by decide +kernel⟩⟩
theorem k_N_isNear_36 : kS "RegistryLog$Name" 42 y_N_commonBeginning b_N_commonBeginning 4 (some .int) 2 := ⟨(in_4 (List.mem_of_getElem? (i := 74) rfl) rfl), (in_4 (List.mem_of_getElem? (i := 75) rfl) rfl), (in_1 (List.mem_of_getElem? (i := 7) rfl) rfl), (in_4 (List.mem_of_getElem? (i := 76) rfl) rfl), ⟨by decide, by decide, by decide +kernel⟩⟩
theorem k_N_isNear_47 : kS "RegistryLog$Name" 46 y_N_commonEnd b_N_commonEnd 4 (some .int) 2 := ⟨(in_4 (List.mem_of_getElem? (i := 78) rfl) rfl), (in_4 (List.mem_of_getElem? (i := 79) rfl) rfl), (in_1 (List.mem_of_getElem? (i := 7) rfl) rfl), (in_4 (List.mem_of_getElem? (i := 80) rfl) rfl), ⟨by decide, by decide, by decide +kernel⟩⟩
set_option maxHeartbeats 4000000 in
set_option maxRecDepth 100000 in
/-- Name.isNear -/
theorem c_N_isNear (l : Launch) (g : gG) (H : Heap) (a b : Nat) (t u : List Nat) (h : isN g H a t) (h2 : isN g H b u) : Met l y_N_isNear (wC y_N_isNear b_N_isNear 4 (some .boolean)) (rmk 5 0 0 108) (pC g H [.ref a, .ref b]) (qP H (fun v => v = some (.int (bI (nearS t u))))) 0 0 no_ := by
  refine mB (by decide) (Nat.le_of_ble_eq_true rfl) ?_
  intro p e s m below meth c ls C0 hH hZ hnm hl
  have C0 : cF g p s m _ meth c b_N_isNear 4 "RegistryLog$Name" (some .boolean) := C0
  obtain ⟨hx, hb, hml, hown, hts, hr, hlk, hK⟩ := id C0
  subst hH
  have hl : lv_has ls 4 [(0, .ref a), (1, .ref b)] := hl
  obtain ⟨sa, fa, n0, n1, n2⟩ := h
  obtain ⟨sb, fb, k0, k1, k2⟩ := h2
  obtain ⟨_, _, _, hc1, hn1⟩ := id n2
  obtain ⟨_, _, _, hc2, hn2⟩ := id k2
  refine lv_aload_n hx hb d_N_isNear_0 rfl (lv_at hl 0 rfl) ?_
  refine va_get (D := g.1) (ci := 2) (C := R_N) (T := F_N) (N := 2) hx hb hts i_N hown hK.1 n0 0 rfl rfl 1 (by decide) (hts (.fieldLink "RegistryLog$Name" 19 "RegistryLog$Name" "folded" "Ljava/lang/String;") (in_2 (List.mem_of_getElem? (i := 159) rfl) rfl)) (fun _ h9 => h9) rfl d_N_isNear_1 ?_
  refine aP (rV (As := []) (rest := []) C0 (s_len n2) hZ k_N_isNear_4 rfl rfl ⟨Nat.le_of_ble_eq_true rfl, Nat.le_of_ble_eq_true rfl⟩ (isS_recv hK n2) rfl hl.1 rfl (Nat.le_of_ble_eq_true rfl) d_N_isNear_4 ⟨Nat.zero_le _, Nat.zero_le _⟩) ?_
  intro v hv; subst hv
  refine W.eq (g2 := F0 m 7 ls [.int (nI (foldT t).length)]) rfl ?_
  refine lv_istore_n (lv' := [(2, .int (nI (foldT t).length)), (0, .ref a), (1, .ref b)]) hx hb d_N_isNear_7 rfl hl (by decide) rfl (fun ls hl => ?_)
  refine lv_aload_n hx hb d_N_isNear_8 rfl (lv_at hl 2 rfl) ?_
  refine va_get (D := g.1) (ci := 2) (C := R_N) (T := F_N) (N := 2) hx hb hts i_N hown hK.1 k0 0 rfl rfl 1 (by decide) (hts (.fieldLink "RegistryLog$Name" 19 "RegistryLog$Name" "folded" "Ljava/lang/String;") (in_2 (List.mem_of_getElem? (i := 159) rfl) rfl)) (fun _ h9 => h9) rfl d_N_isNear_9 ?_
  refine aP (rV (As := []) (rest := []) C0 (s_len k2) hZ k_N_isNear_12 rfl rfl ⟨Nat.le_of_ble_eq_true rfl, Nat.le_of_ble_eq_true rfl⟩ (isS_recv hK k2) rfl hl.1 rfl (Nat.le_of_ble_eq_true rfl) d_N_isNear_12 ⟨Nat.zero_le _, Nat.zero_le _⟩) ?_
  intro v hv; subst hv
  refine W.eq (g2 := F0 m 15 ls [.int (nI (foldT u).length)]) rfl ?_
  refine lv_istore_n (lv' := [(3, .int (nI (foldT u).length)), (2, .int (nI (foldT t).length)), (0, .ref a), (1, .ref b)]) hx hb d_N_isNear_15 rfl hl (by decide) rfl (fun ls hl => ?_)
  refine lv_iload_n hx hb d_N_isNear_16 rfl (lv_at hl 1 rfl) ?_
  refine lv_iload_n hx hb d_N_isNear_17 rfl (lv_at hl 0 rfl) ?_
  refine lv_isub hx hb d_N_isNear_18 ?_
  refine va_mabs hx hb (by rw [hml]; exact hl.1.symm) hown (hts _ (in_4 (List.mem_of_getElem? (i := 71) rfl) rfl)) (hts _ (in_4 (List.mem_of_getElem? (i := 72) rfl) rfl)) (hts _ (in_1 (List.mem_of_getElem? (i := 11) rfl) rfl)) (hts _ (in_4 (List.mem_of_getElem? (i := 73) rfl) rfl)) (Nat.le_of_ble_eq_true rfl) (Nat.le_of_ble_eq_true rfl) (Nat.zero_le _) (Nat.zero_le _) d_N_isNear_19 ?_
  rw [ab_ (by omega) (by omega)]
  refine lv_iconst (v := 1) hx hb d_N_isNear_22 (by decide) ?_
  refine lv_icmp_le (tgt := 28) hx hb d_N_isNear_23 (by decide) (fun c23 => ?_) (fun c23 => ?_)
  · skip
    have hd : (foldT t).length ≤ (foldT u).length + 1 ∧ (foldT u).length ≤ (foldT t).length + 1 := by
      have := (nI_leI (by split <;> omega) (by omega)).mp (show nI _ ≤ nI 1 from c23)
      split at this <;> omega
    refine lv_aload_n hx hb d_N_isNear_28 rfl (lv_at hl 2 rfl) ?_
    refine va_get (D := g.1) (ci := 2) (C := R_N) (T := F_N) (N := 2) hx hb hts i_N hown hK.1 n0 0 rfl rfl 1 (by decide) (hts (.fieldLink "RegistryLog$Name" 19 "RegistryLog$Name" "folded" "Ljava/lang/String;") (in_2 (List.mem_of_getElem? (i := 159) rfl) rfl)) (fun _ h9 => h9) rfl d_N_isNear_29 ?_
    refine lv_aload_n hx hb d_N_isNear_32 rfl (lv_at hl 3 rfl) ?_
    refine va_get (D := g.1) (ci := 2) (C := R_N) (T := F_N) (N := 2) hx hb hts i_N hown hK.1 k0 0 rfl rfl 1 (by decide) (hts (.fieldLink "RegistryLog$Name" 19 "RegistryLog$Name" "folded" "Ljava/lang/String;") (in_2 (List.mem_of_getElem? (i := 159) rfl) rfl)) (fun _ h9 => h9) rfl d_N_isNear_33 ?_
    refine aP (rS (As := [.ref fa, .ref fb]) (rest := []) C0 (c_N_commonBeginning l g s.heap fa fb _ _ n2 k2) hZ k_N_isNear_36 rfl rfl ⟨Nat.le_of_ble_eq_true rfl, Nat.le_of_ble_eq_true rfl⟩ rfl hl.1 rfl (Nat.le_of_ble_eq_true rfl) d_N_isNear_36 ⟨Nat.zero_le _, Nat.zero_le _⟩) ?_
    intro v hv; subst hv
    refine W.eq (g2 := F0 m 39 ls [.int (nI (cbS (foldT t) (foldT u)))]) rfl ?_
    refine lv_aload_n hx hb d_N_isNear_39 rfl (lv_at hl 2 rfl) ?_
    refine va_get (D := g.1) (ci := 2) (C := R_N) (T := F_N) (N := 2) hx hb hts i_N hown hK.1 n0 0 rfl rfl 1 (by decide) (hts (.fieldLink "RegistryLog$Name" 19 "RegistryLog$Name" "folded" "Ljava/lang/String;") (in_2 (List.mem_of_getElem? (i := 159) rfl) rfl)) (fun _ h9 => h9) rfl d_N_isNear_40 ?_
    refine lv_aload_n hx hb d_N_isNear_43 rfl (lv_at hl 3 rfl) ?_
    refine va_get (D := g.1) (ci := 2) (C := R_N) (T := F_N) (N := 2) hx hb hts i_N hown hK.1 k0 0 rfl rfl 1 (by decide) (hts (.fieldLink "RegistryLog$Name" 19 "RegistryLog$Name" "folded" "Ljava/lang/String;") (in_2 (List.mem_of_getElem? (i := 159) rfl) rfl)) (fun _ h9 => h9) rfl d_N_isNear_44 ?_
    refine aP (rS (As := [.ref fa, .ref fb]) (rest := [.int (nI (cbS (foldT t) (foldT u)))]) C0 (c_N_commonEnd l g s.heap fa fb _ _ n2 k2) hZ k_N_isNear_47 rfl rfl ⟨Nat.le_of_ble_eq_true rfl, Nat.le_of_ble_eq_true rfl⟩ rfl hl.1 rfl (Nat.le_of_ble_eq_true rfl) d_N_isNear_47 ⟨Nat.zero_le _, Nat.zero_le _⟩) ?_
    intro v hv; subst hv
    refine W.eq (g2 := F0 m 50 ls [.int (nI (cbS (foldT t).reverse (foldT u).reverse)), .int (nI (cbS (foldT t) (foldT u)))]) rfl ?_
    refine lv_iadd hx hb d_N_isNear_50 ?_
    refine lv_iload_n hx hb d_N_isNear_51 rfl (lv_at hl 1 rfl) ?_
    refine lv_iload_n hx hb d_N_isNear_52 rfl (lv_at hl 0 rfl) ?_
    refine va_mmax hx hb (by rw [hml]; exact hl.1.symm) hown (hts _ (in_4 (List.mem_of_getElem? (i := 81) rfl) rfl)) (hts _ (in_1 (List.mem_of_getElem? (i := 151) rfl) rfl)) (hts _ (in_1 (List.mem_of_getElem? (i := 11) rfl) rfl)) (hts _ (in_1 (List.mem_of_getElem? (i := 152) rfl) rfl)) (Nat.le_of_ble_eq_true rfl) (Nat.le_of_ble_eq_true rfl) (Nat.zero_le _) (Nat.zero_le _) d_N_isNear_53 ?_
    rw [mx_ (by omega) (by omega)]
    refine lv_iconst (v := 1) hx hb d_N_isNear_56 (by decide) ?_
    refine lv_isub hx hb d_N_isNear_57 ?_
    rw [nI_add]
    have hcmp : (nI (cbS (foldT t) (foldT u) + cbS (foldT t).reverse (foldT u).reverse) < nI (max (foldT t).length (foldT u).length) - 1) ↔ cbS (foldT t) (foldT u) + cbS (foldT t).reverse (foldT u).reverse + 1 < max (foldT t).length (foldT u).length := by
      have q1 := cbS_le (foldT t) (foldT u)
      have q2 := cbS_le (foldT t).reverse (foldT u).reverse
      rw [List.length_reverse] at q2
      rw [Int32.lt_iff_toInt_lt, nI_toInt (by omega), show (1 : Int32) = nI 1 from rfl, pk_sub_toInt (by omega) (by omega)]
      omega
    refine lv_icmp_lt (tgt := 65) hx hb d_N_isNear_58 (by decide) (fun c58 => ?_) (fun c58 => ?_)
    · skip
      refine lv_iconst (v := 0) hx hb d_N_isNear_65 (by decide) ?_
      have c58 := hcmp.mp c58
      exact W.zret hx hb hr rfl (fun t9 ht hW => ⟨_, rfl, by rw [nearS, decide_eq_false (fun z => absurd z.2.2 (by omega))]; rfl, ht⟩) (fun q h => by cases h) d_N_isNear_66 hlk
    · skip
      refine lv_iconst (v := 1) hx hb d_N_isNear_61 (by decide) ?_
      refine lv_goto (tgt := 66) hx hb d_N_isNear_62 (by decide) ?_
      have c58 := Nat.le_of_not_lt (fun z => c58 (hcmp.mpr z))
      exact W.zret hx hb hr rfl (fun t9 ht hW => ⟨_, rfl, by rw [nearS, decide_eq_true ⟨hd.1, hd.2, by omega⟩]; rfl, ht⟩) (fun q h => by cases h) d_N_isNear_66 hlk
  · skip
    refine lv_iconst (v := 0) hx hb d_N_isNear_26 (by decide) ?_
    exact W.zret hx hb hr rfl (fun t9 ht hW => ⟨_, rfl, by rw [nearS, decide_eq_false (fun z => c23 (show nI _ ≤ nI 1 from nI_le (by split <;> omega) (by omega)))]; rfl, ht⟩) (fun q h => by cases h) d_N_isNear_27 hlk
theorem k_L_isFree_12 : kV "RegistryLog$Ledger" 35 "RegistryLog$Ledger" y_L_at b_L_at 2 (some (.object "RegistryLog$Row")) 1 := ⟨(in_3 (List.mem_of_getElem? (i := 236) rfl) rfl), (in_3 (List.mem_of_getElem? (i := 47) rfl) rfl), (in_3 (List.mem_of_getElem? (i := 48) rfl) rfl), (in_1 (List.mem_of_getElem? (i := 6) rfl) rfl), (in_3 (List.mem_of_getElem? (i := 49) rfl) rfl), ⟨by decide, by decide, by decide +kernel⟩⟩
theorem k_L_isFree_23 : kV "RegistryLog$Ledger" 46 "RegistryLog$Name" y_N_isSame b_N_isSame 2 (some .boolean) 1 := ⟨(in_3 (List.mem_of_getElem? (i := 237) rfl) rfl), (in_3 (List.mem_of_getElem? (i := 238) rfl) rfl), (in_3 (List.mem_of_getElem? (i := 239) rfl) rfl), (in_1 (List.mem_of_getElem? (i := 7) rfl) rfl), (in_4 (List.mem_of_getElem? (i := 0) rfl) rfl), ⟨by decide, by decide, by decide +kernel⟩⟩
theorem k_L_isFree_46 : kV "RegistryLog$Ledger" 56 "RegistryLog$Name" y_N_isNear b_N_isNear 4 (some .boolean) 1 := ⟨(in_4 (List.mem_of_getElem? (i := 67) rfl) rfl), (in_4 (List.mem_of_getElem? (i := 68) rfl) rfl), (in_4 (List.mem_of_getElem? (i := 69) rfl) rfl), (in_1 (List.mem_of_getElem? (i := 7) rfl) rfl), (in_4 (List.mem_of_getElem? (i := 70) rfl) rfl), ⟨by decide, by decide, by decide +kernel⟩⟩
theorem k_L_isFree_58 : kV "RegistryLog$Ledger" 59 "RegistryLog$Ledger" y_L_originOf b_L_originOf 5 (some .int) 1 := ⟨(in_4 (List.mem_of_getElem? (i := 82) rfl) rfl), (in_3 (List.mem_of_getElem? (i := 233) rfl) rfl), (in_3 (List.mem_of_getElem? (i := 234) rfl) rfl), (in_1 (List.mem_of_getElem? (i := 6) rfl) rfl), (in_3 (List.mem_of_getElem? (i := 235) rfl) rfl), ⟨by decide, by decide, by decide +kernel⟩⟩
set_option maxHeartbeats 4000000 in
set_option maxRecDepth 100000 in
theorem lp_L_isFree {p : Program} {l : Launch} {e : Env} {s : State} {m : MethodId} {args : Array Value} {below : List Frame} {meth : Method} {c : Code} {g : gG} (C0 : cF g p s m args meth c b_L_isFree 5 "RegistryLog$Ledger" (some .boolean)) (hZ : zK g s s.heap) (a : Nat) (rows : List Rw) (h : isL g s.heap a rows) (b : Nat) (t : List Nat) (mine : Int32) (hb9 : isN g s.heap b t) (res : Bool) :
    ∀ (n i : Nat), i ≤ rows.length → rows.length + 1 ≤ i + n → freeS t mine rows (rows.drop i) = res → ∀ (ls : Array Slot), lv_has ls 5 [(0, .ref a), (1, .ref b), (2, .int mine), (3, .int (nI i))] → W p l e (rmk 6 0 0 131) s m args below meth c s.heap [] 0 0 (MQ below (qP s.heap (fun v => v = some (.int (bI res)))) args s 0 0 no_) (F0 m 2 ls []) := by
  obtain ⟨hx, hb, hml, hown, hts, hr, hlk, hK⟩ := id C0
  obtain ⟨w, n0, f, f0, f1, hn9, hlen, hrs⟩ := id h
  intro n
  induction n with
  | zero => intro i h1 h2; exact absurd h2 (by omega)
  | succ n ih =>
    intro i hi hin hres ls hl
    refine lv_iload_n hx hb d_L_isFree_2 rfl (lv_at hl 3 rfl) ?_
    refine lv_aload_n hx hb d_L_isFree_3 rfl (lv_at hl 0 rfl) ?_
    refine va_get (D := g.1) (ci := 1) (C := R_L) (T := F_L) (N := 3) hx hb hts i_L hown hK.1 f0 0 rfl rfl 2 (by decide) (hts (.fieldLink "RegistryLog$Ledger" 31 "RegistryLog$Ledger" "count" "I") (in_2 (List.mem_of_getElem? (i := 223) rfl) rfl)) (fun _ h9 => h9) rfl d_L_isFree_4 ?_
    refine lv_icmp_ge (tgt := 73) hx hb d_L_isFree_7 (by decide) (fun c7 => ?_) (fun c7 => ?_)
    · skip
      refine lv_iconst (v := 1) hx hb d_L_isFree_73 (by decide) ?_
      have he : i = rows.length := by have := (nI_leI (by omega) (by omega)).mp c7; omega
      subst he
      rw [List.drop_length] at hres
      exact W.zret hx hb hr rfl (fun t9 ht hW => ⟨_, rfl, by rw [← hres]; rfl, ht⟩) (fun q h => by cases h) d_L_isFree_74 hlk
    · skip
      have hlt : i < rows.length := by rcases Nat.lt_or_ge i rows.length with q | q; exact q; exact absurd (nI_le q (by omega)) c7
      refine lv_aload_n hx hb d_L_isFree_10 rfl (lv_at hl 0 rfl) ?_
      refine lv_iload_n hx hb d_L_isFree_11 rfl (lv_at hl 3 rfl) ?_
      refine aP (rV (As := [.int (nI i)]) (rest := []) C0 (c_L_at l g s.heap a rows (nI i) h) hZ k_L_isFree_12 rfl rfl ⟨Nat.le_of_ble_eq_true rfl, Nat.le_of_ble_eq_true rfl⟩ (isL_recv hK h) rfl hl.1 rfl (Nat.le_of_ble_eq_true rfl) d_L_isFree_12 ⟨Nat.zero_le _, Nat.zero_le _⟩) ?_
      rintro v ⟨r, rfl, hr9⟩
      rw [atS_in hlt hlen] at hr9
      obtain ⟨R9, eR⟩ : ∃ R9, R9 = rows.getD i noRw := ⟨_, rfl⟩
      rw [← eR] at hr9
      rw [dropR hlt eR] at hres
      refine W.eq (g2 := F0 m 15 ls [.ref r]) rfl ?_
      obtain ⟨na, nb, hr90, hr9n, hr9a⟩ := hr9
      refine lv_astore (lv' := [(4, .ref r), (0, .ref a), (1, .ref b), (2, .int mine), (3, .int (nI i))]) hx hb d_L_isFree_15 hl (by decide) rfl (fun ls hl => ?_)
      refine lv_aload hx hb d_L_isFree_17 (lv_at hl 0 rfl) ?_
      refine va_get (D := g.1) (ci := 4) (C := R_R) (T := F_R) (N := 8) hx hb hts i_R hown hK.1 hr90 0 rfl rfl 3 (by decide) (hts (.fieldLink "RegistryLog$Ledger" 50 "RegistryLog$Row" "nameAfter" "LRegistryLog$Name;") (in_2 (List.mem_of_getElem? (i := 191) rfl) rfl)) (fun _ h9 => h9) rfl d_L_isFree_19 ?_
      refine lv_aload_n hx hb d_L_isFree_22 rfl (lv_at hl 2 rfl) ?_
      refine aP (rV (As := [.ref b]) (rest := []) C0 (c_N_isSame l g s.heap nb b _ t hr9a hb9) hZ k_L_isFree_23 rfl rfl ⟨Nat.le_of_ble_eq_true rfl, Nat.le_of_ble_eq_true rfl⟩ (isN_recv hK hr9a) rfl hl.1 rfl (Nat.le_of_ble_eq_true rfl) d_L_isFree_23 ⟨Nat.zero_le _, Nat.zero_le _⟩) ?_
      intro v hv; subst hv
      refine W.eq (g2 := F0 m 26 ls [.int (bI (decide (ra R9 = t)))]) rfl ?_
      refine lv_if_eq (tgt := 31) hx hb d_L_isFree_26 (by decide) (fun c26 => ?_) (fun c26 => ?_)
      · skip
        refine lv_aload hx hb d_L_isFree_31 (lv_at hl 0 rfl) ?_
        refine va_get (D := g.1) (ci := 4) (C := R_R) (T := F_R) (N := 8) hx hb hts i_R hown hK.1 hr90 0 rfl rfl 6 (by decide) (hts (.fieldLink "RegistryLog$Ledger" 53 "RegistryLog$Row" "origin" "I") (in_2 (List.mem_of_getElem? (i := 199) rfl) rfl)) (fun _ h9 => h9) rfl d_L_isFree_33 ?_
        refine lv_iload_n hx hb d_L_isFree_36 rfl (lv_at hl 3 rfl) ?_
        refine lv_icmp_eq (tgt := 67) hx hb d_L_isFree_37 (by decide) (fun c37 => ?_) (fun c37 => ?_)
        · skip
          obtain ⟨x_1, ex_1⟩ : ∃ y : Int32, y = (nI i) + 1 := ⟨_, rfl⟩
          refine lv_iinc (v := x_1) (lv' := [(3, .int x_1), (4, .ref r), (0, .ref a), (1, .ref b), (2, .int mine)]) hx hb d_L_isFree_67 hl (k := 4) rfl (by rw [ex_1]; rfl) (by decide) rfl (fun ls hl => ?_)
          refine lv_goto (tgt := 2) hx hb d_L_isFree_70 (by decide) ?_
          rw [ex_1, nI_1] at hl
          rw [freeS, if_neg (of_decide_eq_false (bI_z.mp c26)), if_neg (fun z => z.1 c37)] at hres
          exact ih (i + 1) hlt (by omega) hres ls (lv_sub hl [2, 3, 4, 0] rfl)
        · skip
          refine lv_aload hx hb d_L_isFree_40 (lv_at hl 0 rfl) ?_
          refine va_get (D := g.1) (ci := 4) (C := R_R) (T := F_R) (N := 8) hx hb hts i_R hown hK.1 hr90 0 rfl rfl 3 (by decide) (hts (.fieldLink "RegistryLog$Ledger" 50 "RegistryLog$Row" "nameAfter" "LRegistryLog$Name;") (in_2 (List.mem_of_getElem? (i := 191) rfl) rfl)) (fun _ h9 => h9) rfl d_L_isFree_42 ?_
          refine lv_aload_n hx hb d_L_isFree_45 rfl (lv_at hl 2 rfl) ?_
          refine aP (rV (As := [.ref b]) (rest := []) C0 (c_N_isNear l g s.heap nb b _ t hr9a hb9) hZ k_L_isFree_46 rfl rfl ⟨Nat.le_of_ble_eq_true rfl, Nat.le_of_ble_eq_true rfl⟩ (isN_recv hK hr9a) rfl hl.1 rfl (Nat.le_of_ble_eq_true rfl) d_L_isFree_46 ⟨Nat.zero_le _, Nat.zero_le _⟩) ?_
          intro v hv; subst hv
          refine W.eq (g2 := F0 m 49 ls [.int (bI (nearS (ra R9) t))]) rfl ?_
          refine lv_if_eq (tgt := 67) hx hb d_L_isFree_49 (by decide) (fun c49 => ?_) (fun c49 => ?_)
          · skip
            obtain ⟨x_2, ex_2⟩ : ∃ y : Int32, y = (nI i) + 1 := ⟨_, rfl⟩
            refine lv_iinc (v := x_2) (lv' := [(3, .int x_2), (4, .ref r), (0, .ref a), (1, .ref b), (2, .int mine)]) hx hb d_L_isFree_67 hl (k := 4) rfl (by rw [ex_2]; rfl) (by decide) rfl (fun ls hl => ?_)
            refine lv_goto (tgt := 2) hx hb d_L_isFree_70 (by decide) ?_
            rw [ex_2, nI_1] at hl
            rw [freeS, if_neg (of_decide_eq_false (bI_z.mp c26)), if_neg (fun z => absurd z.2.1 (by rw [bI_z.mp c49]; decide))] at hres
            exact ih (i + 1) hlt (by omega) hres ls (lv_sub hl [2, 3, 4, 0] rfl)
          · skip
            refine lv_aload_n hx hb d_L_isFree_52 rfl (lv_at hl 1 rfl) ?_
            refine lv_aload hx hb d_L_isFree_53 (lv_at hl 0 rfl) ?_
            refine va_get (D := g.1) (ci := 4) (C := R_R) (T := F_R) (N := 8) hx hb hts i_R hown hK.1 hr90 0 rfl rfl 3 (by decide) (hts (.fieldLink "RegistryLog$Ledger" 50 "RegistryLog$Row" "nameAfter" "LRegistryLog$Name;") (in_2 (List.mem_of_getElem? (i := 191) rfl) rfl)) (fun _ h9 => h9) rfl d_L_isFree_55 ?_
            refine aP (rV (As := [.ref nb]) (rest := []) C0 (c_L_originOf l g s.heap a nb rows _ h hr9a) hZ k_L_isFree_58 rfl rfl ⟨Nat.le_of_ble_eq_true rfl, Nat.le_of_ble_eq_true rfl⟩ (isL_recv hK h) rfl hl.1 rfl (Nat.le_of_ble_eq_true rfl) d_L_isFree_58 ⟨Nat.zero_le _, Nat.zero_le _⟩) ?_
            intro v hv; subst hv
            refine W.eq (g2 := F0 m 61 ls [.int (oS (ra R9) rows (-1))]) rfl ?_
            refine lv_iconst (v := (-1)) hx hb d_L_isFree_61 (by decide) ?_
            refine lv_icmp_eq (tgt := 67) hx hb d_L_isFree_62 (by decide) (fun c62 => ?_) (fun c62 => ?_)
            · skip
              obtain ⟨x_3, ex_3⟩ : ∃ y : Int32, y = (nI i) + 1 := ⟨_, rfl⟩
              refine lv_iinc (v := x_3) (lv' := [(3, .int x_3), (4, .ref r), (0, .ref a), (1, .ref b), (2, .int mine)]) hx hb d_L_isFree_67 hl (k := 4) rfl (by rw [ex_3]; rfl) (by decide) rfl (fun ls hl => ?_)
              refine lv_goto (tgt := 2) hx hb d_L_isFree_70 (by decide) ?_
              rw [ex_3, nI_1] at hl
              rw [freeS, if_neg (of_decide_eq_false (bI_z.mp c26)), if_neg (fun z => z.2.2 c62)] at hres
              exact ih (i + 1) hlt (by omega) hres ls (lv_sub hl [2, 3, 4, 0] rfl)
            · skip
              refine lv_iconst (v := 0) hx hb d_L_isFree_65 (by decide) ?_
              rw [freeS, if_neg (of_decide_eq_false (bI_z.mp c26)), if_pos ⟨c37, bI_n.mp c49, c62⟩] at hres
              exact W.zret hx hb hr rfl (fun t9 ht hW => ⟨_, rfl, by rw [← hres]; rfl, ht⟩) (fun q h => by cases h) d_L_isFree_66 hlk
      · skip
        refine lv_iconst (v := 0) hx hb d_L_isFree_29 (by decide) ?_
        rw [freeS, if_pos (of_decide_eq_true (bI_n.mp c26))] at hres
        exact W.zret hx hb hr rfl (fun t9 ht hW => ⟨_, rfl, by rw [← hres]; rfl, ht⟩) (fun q h => by cases h) d_L_isFree_30 hlk
set_option maxHeartbeats 4000000 in
set_option maxRecDepth 100000 in
/-- Ledger.isFree -/
theorem c_L_isFree (l : Launch) (g : gG) (H : Heap) (a b : Nat) (rows : List Rw) (t : List Nat) (mine : Int32) (h : isL g H a rows) (hb9 : isN g H b t) : Met l y_L_isFree (wC y_L_isFree b_L_isFree 5 (some .boolean)) (rmk 6 0 0 131) (pC g H [.ref a, .ref b, .int mine]) (qP H (fun v => v = some (.int (bI (freeS t mine rows rows))))) 0 0 no_ := by
  refine mB (by decide) (Nat.le_of_ble_eq_true rfl) ?_
  intro p e s m below meth c ls C0 hH hZ hnm hl
  have C0 : cF g p s m _ meth c b_L_isFree 5 "RegistryLog$Ledger" (some .boolean) := C0
  obtain ⟨hx, hb, hml, hown, hts, hr, hlk, hK⟩ := id C0
  subst hH
  have hl : lv_has ls 5 [(0, .ref a), (1, .ref b), (2, .int mine)] := hl
  refine lv_iconst (v := 0) hx hb d_L_isFree_0 (by decide) ?_
  refine lv_istore_n (lv' := [(3, .int 0), (0, .ref a), (1, .ref b), (2, .int mine)]) hx hb d_L_isFree_1 rfl hl (by decide) rfl (fun ls hl => ?_)
  exact lp_L_isFree C0 hZ a rows h b t mine hb9 _ (rows.length + 1) 0 (Nat.zero_le _) (by omega) rfl ls (lv_sub hl [1, 2, 3, 0] rfl)
theorem k_N_isName_4 : kV "RegistryLog$Name" 22 "java/lang/String" y_S_length b_S_length 1 (some .int) 0 := ⟨(in_1 (List.mem_of_getElem? (i := 85) rfl) rfl), (in_1 (List.mem_of_getElem? (i := 86) rfl) rfl), (in_1 (List.mem_of_getElem? (i := 87) rfl) rfl), (in_1 (List.mem_of_getElem? (i := 4) rfl) rfl), (in_1 (List.mem_of_getElem? (i := 88) rfl) rfl), ⟨by decide, by decide, by decide +kernel⟩⟩
theorem k_N_isName_35 : kV "RegistryLog$Name" 28 "java/lang/String" y_S_charAt b_S_charAt 2 (some .char) 1 := ⟨(in_1 (List.mem_of_getElem? (i := 94) rfl) rfl), (in_1 (List.mem_of_getElem? (i := 95) rfl) rfl), (in_1 (List.mem_of_getElem? (i := 96) rfl) rfl), (in_1 (List.mem_of_getElem? (i := 4) rfl) rfl), (in_1 (List.mem_of_getElem? (i := 97) rfl) rfl), ⟨by decide, by decide, by decide +kernel⟩⟩
set_option maxHeartbeats 4000000 in
set_option maxRecDepth 100000 in
theorem lp_N_isName {p : Program} {l : Launch} {e : Env} {s : State} {m : MethodId} {args : Array Value} {below : List Frame} {meth : Method} {c : Code} {g : gG} (C0 : cF g p s m args meth c b_N_isName 6 "RegistryLog$Name" (some .boolean)) (hZ : zK g s s.heap) (a sa fa : Nat) (t : List Nat) (n0 : ob g s.heap a 2 [.ref sa, .ref fa]) (n1 : isS g s.heap sa t) (hc1 : ∀ c ∈ t, c < 128) (hn1 : t.length ≤ 100) (res : Bool) :
    ∀ (n i : Nat) (b0 : Bool), i ≤ t.length → t.length + 1 ≤ i + n → nmS (t.drop i) b0 = res → ∀ (ls : Array Slot), lv_has ls 6 [(0, .ref a), (1, .int (nI t.length)), (2, .int (bI b0)), (3, .int (nI i))] → W p l e (rmk 4 0 0 85) s m args below meth c s.heap [] 0 0 (MQ below (qP s.heap (fun v => v = some (.int (bI res)))) args s 0 0 no_) (F0 m 25 ls []) := by
  obtain ⟨hx, hb, hml, hown, hts, hr, hlk, hK⟩ := id C0
  intro n
  induction n with
  | zero => intro i b0 h1 h2; exact absurd h2 (by omega)
  | succ n ih =>
    intro i b0 hi hin hres ls hl
    refine lv_iload_n hx hb d_N_isName_25 rfl (lv_at hl 3 rfl) ?_
    refine lv_iload_n hx hb d_N_isName_26 rfl (lv_at hl 1 rfl) ?_
    refine lv_icmp_ge (tgt := 88) hx hb d_N_isName_27 (by decide) (fun c27 => ?_) (fun c27 => ?_)
    · skip
      refine lv_iload_n hx hb d_N_isName_88 rfl (lv_at hl 2 rfl) ?_
      have he : i = t.length := by have := (nI_leI (by omega) (by omega)).mp c27; omega
      subst he
      rw [List.drop_length] at hres
      exact W.zret hx hb hr (by cases b0 <;> rfl) (fun t9 ht hW => ⟨_, rfl, by rw [← hres]; rfl, ht⟩) (fun q h => by cases h) d_N_isName_89 hlk
    · skip
      have hlt : i < t.length := by rcases Nat.lt_or_ge i t.length with q | q; exact q; exact absurd (nI_le q (by omega)) c27
      refine lv_aload_n hx hb d_N_isName_30 rfl (lv_at hl 0 rfl) ?_
      refine va_get (D := g.1) (ci := 2) (C := R_N) (T := F_N) (N := 2) hx hb hts i_N hown hK.1 n0 0 rfl rfl 0 (by decide) (hts (.fieldLink "RegistryLog$Name" 9 "RegistryLog$Name" "typed" "Ljava/lang/String;") (in_2 (List.mem_of_getElem? (i := 157) rfl) rfl)) (fun _ h9 => h9) rfl d_N_isName_31 ?_
      refine lv_iload_n hx hb d_N_isName_34 rfl (lv_at hl 3 rfl) ?_
      refine aP (rV (As := [.int (nI i)]) (rest := []) C0 (s_ch n1 hlt) hZ k_N_isName_35 rfl rfl ⟨Nat.le_of_ble_eq_true rfl, Nat.le_of_ble_eq_true rfl⟩ (isS_recv hK n1) rfl hl.1 rfl (Nat.le_of_ble_eq_true rfl) d_N_isName_35 ⟨Nat.zero_le _, Nat.zero_le _⟩) ?_
      intro v hv; subst hv
      refine W.eq (g2 := F0 m 38 ls [.int (nI (t.getD i 0))]) rfl ?_
      refine lv_istore (lv' := [(4, .int (nI (t.getD i 0))), (0, .ref a), (1, .int (nI t.length)), (2, .int (bI b0)), (3, .int (nI i))]) hx hb d_N_isName_38 hl (by decide) rfl (fun ls hl => ?_)
      refine lv_iload hx hb d_N_isName_40 (lv_at hl 0 rfl) ?_
      refine lv_bipush (v := 97) hx hb d_N_isName_42 (by decide) ?_
      refine lv_icmp_lt (tgt := 58) hx hb d_N_isName_44 (by decide) (fun c44 => ?_) (fun c44 => ?_)
      · skip
        refine lv_iconst (v := 0) hx hb d_N_isName_58 (by decide) ?_
        have hcb := gd_lt hc1 i
        have hle : ¬ (97 ≤ t.getD i 0 ∧ t.getD i 0 ≤ 122) := by have := (nI_ltI (by omega) (by omega)).mp (show nI (t.getD i 0) < nI 97 from c44); omega
        refine lv_istore (lv' := [(5, .int 0), (4, .int (nI (t.getD i 0))), (0, .ref a), (1, .int (nI t.length)), (2, .int (bI b0)), (3, .int (nI i))]) hx hb d_N_isName_59 hl (by decide) rfl (fun ls hl => ?_)
        refine lv_iload hx hb d_N_isName_61 (lv_at hl 0 rfl) ?_
        refine lv_if_ne (tgt := 79) hx hb d_N_isName_63 (by decide) (fun c63 => ?_) (fun c63 => ?_)
        · skip
          first | exact absurd c63 (by decide) | exact absurd (by decide) c63
        · skip
          refine lv_iload hx hb d_N_isName_66 (lv_at hl 1 rfl) ?_
          refine lv_bipush (v := 45) hx hb d_N_isName_68 (by decide) ?_
          refine lv_icmp_ne (tgt := 77) hx hb d_N_isName_70 (by decide) (fun c70 => ?_) (fun c70 => ?_)
          · skip
            refine lv_iconst (v := 0) hx hb d_N_isName_77 (by decide) ?_
            rw [dropT hlt, nmS, if_neg hle, if_neg (fun z => c70 (by rw [z.1]; rfl))] at hres
            exact W.zret hx hb hr rfl (fun t9 ht hW => ⟨_, rfl, by rw [← hres]; rfl, ht⟩) (fun q h => by cases h) d_N_isName_78 hlk
          · skip
            refine lv_iload_n hx hb d_N_isName_73 rfl (lv_at hl 4 rfl) ?_
            refine lv_if_ne (tgt := 79) hx hb d_N_isName_74 (by decide) (fun c74 => ?_) (fun c74 => ?_)
            · skip
              refine lv_iload hx hb d_N_isName_79 (lv_at hl 0 rfl) ?_
              refine lv_istore_n (lv' := [(2, .int 0), (5, .int 0), (4, .int (nI (t.getD i 0))), (0, .ref a), (1, .int (nI t.length)), (3, .int (nI i))]) hx hb d_N_isName_81 rfl hl (by decide) rfl (fun ls hl => ?_)
              obtain ⟨x_1, ex_1⟩ : ∃ y : Int32, y = (nI i) + 1 := ⟨_, rfl⟩
              refine lv_iinc (v := x_1) (lv' := [(3, .int x_1), (2, .int 0), (5, .int 0), (4, .int (nI (t.getD i 0))), (0, .ref a), (1, .int (nI t.length))]) hx hb d_N_isName_82 hl (k := 5) rfl (by rw [ex_1]; rfl) (by decide) rfl (fun ls hl => ?_)
              refine lv_goto (tgt := 25) hx hb d_N_isName_85 (by decide) ?_
              rw [ex_1, nI_1] at hl
              rw [dropT hlt, nmS, if_neg hle, if_pos ⟨(nI_eq (by omega) (by omega)).mp (show nI (t.getD i 0) = nI 45 from c70), bI_n.mp c74⟩] at hres
              exact ih (i + 1) false hlt (by omega) hres ls (lv_sub hl [4, 5, 1, 0] rfl)
            · skip
              refine lv_iconst (v := 0) hx hb d_N_isName_77 (by decide) ?_
              rw [dropT hlt, nmS, if_neg hle, if_neg (fun z => absurd z.2 (by rw [bI_z.mp c74]; decide))] at hres
              exact W.zret hx hb hr rfl (fun t9 ht hW => ⟨_, rfl, by rw [← hres]; rfl, ht⟩) (fun q h => by cases h) d_N_isName_78 hlk
      · skip
        refine lv_iload hx hb d_N_isName_47 (lv_at hl 0 rfl) ?_
        refine lv_bipush (v := 122) hx hb d_N_isName_49 (by decide) ?_
        refine lv_icmp_gt (tgt := 58) hx hb d_N_isName_51 (by decide) (fun c51 => ?_) (fun c51 => ?_)
        · skip
          refine lv_iconst (v := 0) hx hb d_N_isName_58 (by decide) ?_
          have hcb := gd_lt hc1 i
          have hle : ¬ (97 ≤ t.getD i 0 ∧ t.getD i 0 ≤ 122) := by have := (nI_ltI (by omega) (by omega)).mp (show nI 122 < nI (t.getD i 0) from c51); omega
          refine lv_istore (lv' := [(5, .int 0), (4, .int (nI (t.getD i 0))), (0, .ref a), (1, .int (nI t.length)), (2, .int (bI b0)), (3, .int (nI i))]) hx hb d_N_isName_59 hl (by decide) rfl (fun ls hl => ?_)
          refine lv_iload hx hb d_N_isName_61 (lv_at hl 0 rfl) ?_
          refine lv_if_ne (tgt := 79) hx hb d_N_isName_63 (by decide) (fun c63 => ?_) (fun c63 => ?_)
          · skip
            first | exact absurd c63 (by decide) | exact absurd (by decide) c63
          · skip
            refine lv_iload hx hb d_N_isName_66 (lv_at hl 1 rfl) ?_
            refine lv_bipush (v := 45) hx hb d_N_isName_68 (by decide) ?_
            refine lv_icmp_ne (tgt := 77) hx hb d_N_isName_70 (by decide) (fun c70 => ?_) (fun c70 => ?_)
            · skip
              refine lv_iconst (v := 0) hx hb d_N_isName_77 (by decide) ?_
              rw [dropT hlt, nmS, if_neg hle, if_neg (fun z => c70 (by rw [z.1]; rfl))] at hres
              exact W.zret hx hb hr rfl (fun t9 ht hW => ⟨_, rfl, by rw [← hres]; rfl, ht⟩) (fun q h => by cases h) d_N_isName_78 hlk
            · skip
              refine lv_iload_n hx hb d_N_isName_73 rfl (lv_at hl 4 rfl) ?_
              refine lv_if_ne (tgt := 79) hx hb d_N_isName_74 (by decide) (fun c74 => ?_) (fun c74 => ?_)
              · skip
                refine lv_iload hx hb d_N_isName_79 (lv_at hl 0 rfl) ?_
                refine lv_istore_n (lv' := [(2, .int 0), (5, .int 0), (4, .int (nI (t.getD i 0))), (0, .ref a), (1, .int (nI t.length)), (3, .int (nI i))]) hx hb d_N_isName_81 rfl hl (by decide) rfl (fun ls hl => ?_)
                obtain ⟨x_2, ex_2⟩ : ∃ y : Int32, y = (nI i) + 1 := ⟨_, rfl⟩
                refine lv_iinc (v := x_2) (lv' := [(3, .int x_2), (2, .int 0), (5, .int 0), (4, .int (nI (t.getD i 0))), (0, .ref a), (1, .int (nI t.length))]) hx hb d_N_isName_82 hl (k := 5) rfl (by rw [ex_2]; rfl) (by decide) rfl (fun ls hl => ?_)
                refine lv_goto (tgt := 25) hx hb d_N_isName_85 (by decide) ?_
                rw [ex_2, nI_1] at hl
                rw [dropT hlt, nmS, if_neg hle, if_pos ⟨(nI_eq (by omega) (by omega)).mp (show nI (t.getD i 0) = nI 45 from c70), bI_n.mp c74⟩] at hres
                exact ih (i + 1) false hlt (by omega) hres ls (lv_sub hl [4, 5, 1, 0] rfl)
              · skip
                refine lv_iconst (v := 0) hx hb d_N_isName_77 (by decide) ?_
                rw [dropT hlt, nmS, if_neg hle, if_neg (fun z => absurd z.2 (by rw [bI_z.mp c74]; decide))] at hres
                exact W.zret hx hb hr rfl (fun t9 ht hW => ⟨_, rfl, by rw [← hres]; rfl, ht⟩) (fun q h => by cases h) d_N_isName_78 hlk
        · skip
          refine lv_iconst (v := 1) hx hb d_N_isName_54 (by decide) ?_
          refine lv_goto (tgt := 59) hx hb d_N_isName_55 (by decide) ?_
          have hcb := gd_lt hc1 i
          have hle : 97 ≤ t.getD i 0 ∧ t.getD i 0 ≤ 122 := by
            refine ⟨?_, ?_⟩
            · rcases Nat.lt_or_ge (t.getD i 0) 97 with q | q; exact absurd (show nI (t.getD i 0) < nI 97 from nI_lt q (by omega)) c44; exact q
            · rcases Nat.lt_or_ge 122 (t.getD i 0) with q | q; exact absurd (show nI 122 < nI (t.getD i 0) from nI_lt q (by omega)) c51; exact q
          refine lv_istore (lv' := [(5, .int 1), (4, .int (nI (t.getD i 0))), (0, .ref a), (1, .int (nI t.length)), (2, .int (bI b0)), (3, .int (nI i))]) hx hb d_N_isName_59 hl (by decide) rfl (fun ls hl => ?_)
          refine lv_iload hx hb d_N_isName_61 (lv_at hl 0 rfl) ?_
          refine lv_if_ne (tgt := 79) hx hb d_N_isName_63 (by decide) (fun c63 => ?_) (fun c63 => ?_)
          · skip
            refine lv_iload hx hb d_N_isName_79 (lv_at hl 0 rfl) ?_
            refine lv_istore_n (lv' := [(2, .int 1), (5, .int 1), (4, .int (nI (t.getD i 0))), (0, .ref a), (1, .int (nI t.length)), (3, .int (nI i))]) hx hb d_N_isName_81 rfl hl (by decide) rfl (fun ls hl => ?_)
            obtain ⟨x_3, ex_3⟩ : ∃ y : Int32, y = (nI i) + 1 := ⟨_, rfl⟩
            refine lv_iinc (v := x_3) (lv' := [(3, .int x_3), (2, .int 1), (5, .int 1), (4, .int (nI (t.getD i 0))), (0, .ref a), (1, .int (nI t.length))]) hx hb d_N_isName_82 hl (k := 5) rfl (by rw [ex_3]; rfl) (by decide) rfl (fun ls hl => ?_)
            refine lv_goto (tgt := 25) hx hb d_N_isName_85 (by decide) ?_
            rw [ex_3, nI_1] at hl
            rw [dropT hlt, nmS, if_pos hle] at hres
            exact ih (i + 1) true hlt (by omega) hres ls (lv_sub hl [4, 5, 1, 0] rfl)
          · skip
            first | exact absurd c63 (by decide) | exact absurd (by decide) c63
set_option maxHeartbeats 4000000 in
set_option maxRecDepth 100000 in
/-- Name.isName -/
theorem c_N_isName (l : Launch) (g : gG) (H : Heap) (a : Nat) (t : List Nat) (h : isN g H a t) : Met l y_N_isName (wC y_N_isName b_N_isName 6 (some .boolean)) (rmk 4 0 0 85) (pC g H [.ref a]) (qP H (fun v => v = some (.int (bI (nameS t))))) 0 0 no_ := by
  refine mB (by decide) (Nat.le_of_ble_eq_true rfl) ?_
  intro p e s m below meth c ls C0 hH hZ hnm hl
  have C0 : cF g p s m _ meth c b_N_isName 6 "RegistryLog$Name" (some .boolean) := C0
  obtain ⟨hx, hb, hml, hown, hts, hr, hlk, hK⟩ := id C0
  subst hH
  have hl : lv_has ls 6 [(0, .ref a)] := hl
  obtain ⟨sa, fa, n0, n1, n2⟩ := h
  obtain ⟨_, _, _, hc1, hn1⟩ := id n1
  refine lv_aload_n hx hb d_N_isName_0 rfl (lv_at hl 0 rfl) ?_
  refine va_get (D := g.1) (ci := 2) (C := R_N) (T := F_N) (N := 2) hx hb hts i_N hown hK.1 n0 0 rfl rfl 0 (by decide) (hts (.fieldLink "RegistryLog$Name" 9 "RegistryLog$Name" "typed" "Ljava/lang/String;") (in_2 (List.mem_of_getElem? (i := 157) rfl) rfl)) (fun _ h9 => h9) rfl d_N_isName_1 ?_
  refine aP (rV (As := []) (rest := []) C0 (s_len n1) hZ k_N_isName_4 rfl rfl ⟨Nat.le_of_ble_eq_true rfl, Nat.le_of_ble_eq_true rfl⟩ (isS_recv hK n1) rfl hl.1 rfl (Nat.le_of_ble_eq_true rfl) d_N_isName_4 ⟨Nat.zero_le _, Nat.zero_le _⟩) ?_
  intro v hv; subst hv
  refine W.eq (g2 := F0 m 7 ls [.int (nI t.length)]) rfl ?_
  refine lv_istore_n (lv' := [(1, .int (nI t.length)), (0, .ref a)]) hx hb d_N_isName_7 rfl hl (by decide) rfl (fun ls hl => ?_)
  refine lv_iload_n hx hb d_N_isName_8 rfl (lv_at hl 0 rfl) ?_
  refine lv_iconst (v := 1) hx hb d_N_isName_9 (by decide) ?_
  refine lv_icmp_lt (tgt := 19) hx hb d_N_isName_10 (by decide) (fun c10 => ?_) (fun c10 => ?_)
  · skip
    refine lv_iconst (v := 0) hx hb d_N_isName_19 (by decide) ?_
    exact W.zret hx hb hr rfl (fun t9 ht hW => ⟨_, rfl, by rw [nameS, decide_eq_false (fun z => by have := (nI_ltI (by omega) (by omega)).mp (show nI t.length < nI 1 from c10); omega)]; rfl, ht⟩) (fun q h => by cases h) d_N_isName_20 hlk
  · skip
    refine lv_iload_n hx hb d_N_isName_13 rfl (lv_at hl 0 rfl) ?_
    refine lv_bipush (v := 10) hx hb d_N_isName_14 (by decide) ?_
    refine lv_icmp_le (tgt := 21) hx hb d_N_isName_16 (by decide) (fun c16 => ?_) (fun c16 => ?_)
    · skip
      refine lv_iconst (v := 0) hx hb d_N_isName_21 (by decide) ?_
      refine lv_istore_n (lv' := [(2, .int 0), (1, .int (nI t.length)), (0, .ref a)]) hx hb d_N_isName_22 rfl hl (by decide) rfl (fun ls hl => ?_)
      refine lv_iconst (v := 0) hx hb d_N_isName_23 (by decide) ?_
      refine lv_istore_n (lv' := [(3, .int 0), (2, .int 0), (1, .int (nI t.length)), (0, .ref a)]) hx hb d_N_isName_24 rfl hl (by decide) rfl (fun ls hl => ?_)
      have hd : 1 ≤ t.length ∧ t.length ≤ 10 := ⟨by rcases Nat.lt_or_ge t.length 1 with q | q; exact absurd (show nI t.length < nI 1 from nI_lt q (by omega)) c10; exact q, (nI_leI (by omega) (by omega)).mp (show nI t.length ≤ nI 10 from c16)⟩
      rw [nameS, decide_eq_true hd, Bool.true_and]
      exact lp_N_isName C0 hZ a sa fa t n0 n1 hc1 hn1 _ (t.length + 1) 0 false (Nat.zero_le _) (by omega) rfl ls (lv_sub hl [3, 2, 1, 0] rfl)
    · skip
      refine lv_iconst (v := 0) hx hb d_N_isName_19 (by decide) ?_
      exact W.zret hx hb hr rfl (fun t9 ht hW => ⟨_, rfl, by rw [nameS, decide_eq_false (fun z => c16 (show nI t.length ≤ nI 10 from nI_le z.2 (by omega)))]; rfl, ht⟩) (fun q h => by cases h) d_N_isName_20 hlk
end
section
theorem fpL_lt : ∀ (b n k : Nat), k < n → fpL b n k < n
  | 0, n, k, h => h
  | b + 1, n, k, h => by
    unfold fpL
    split
    · rename_i q; exact fpL_lt b n (2 * k) q.1
    · exact h
theorem fpL_pos : ∀ (b n k : Nat), 1 ≤ k → 1 ≤ fpL b n k
  | 0, n, k, h => h
  | b + 1, n, k, h => by
    unfold fpL
    split
    · exact fpL_pos b n (2 * k) (by omega)
    · exact h
theorem fpS_lt {n : Nat} (h : 2 ≤ n) : fpS n < n := fpL_lt 8 n 1 (by omega)
theorem fpS_pos (n : Nat) : 1 ≤ fpS n := fpL_pos 8 n 1 (Nat.le_refl 1)
/-- HEAD of the n rows from 'at' on, by their DIGESTS -/
def hdS (d : Nat → Int64) (at0 n : Nat) : Int64 :=
  if h : n < 2 then (if n = 1 then d at0 else 0) else joinS (hdS d at0 (fpS n)) (hdS d (at0 + fpS n) (n - fpS n))
termination_by n
decreasing_by
  · exact fpS_lt (by omega)
  · have := fpS_pos n; omega
theorem hdS_1 (d : Nat → Int64) (at0 : Nat) : hdS d at0 1 = d at0 := by rw [hdS]; simp
theorem hdS_n (d : Nat → Int64) (at0 : Nat) {n : Nat} (h : 2 ≤ n) : hdS d at0 n = joinS (hdS d at0 (fpS n)) (hdS d (at0 + fpS n) (n - fpS n)) := by rw [hdS, dif_neg (by omega)]
theorem fpS_half : ∀ n, n < 121 → 2 ≤ n → ∀ d, d < 8 → n ≤ 2 ^ (d + 1) → fpS n ≤ 2 ^ d ∧ n - fpS n ≤ 2 ^ d := by decide +kernel
def dS (rows : List Rw) (j : Nat) : Int64 := digS (rows.getD j noRw)
theorem atS_nat {rows : List Rw} {k : Nat} (h : k < 2 ^ 31) (hr : rows.length ≤ 120) : atS rows (nI k) = rows.getD k noRw := by
  by_cases q : k < rows.length
  · exact atS_in q hr
  · rw [atS, if_neg (fun z => absurd ((nI_ltI h (by omega)).mp z.2) (by omega)), List.getD_eq_getElem?_getD, List.getElem?_eq_none (by omega)]; rfl

theorem k_T_headOf_20 : kV "RegistryLog$Tree" 27 "RegistryLog$Ledger" y_L_at b_L_at 2 (some (.object "RegistryLog$Row")) 1 := ⟨(in_3 (List.mem_of_getElem? (i := 61) rfl) rfl), (in_3 (List.mem_of_getElem? (i := 47) rfl) rfl), (in_3 (List.mem_of_getElem? (i := 48) rfl) rfl), (in_1 (List.mem_of_getElem? (i := 6) rfl) rfl), (in_3 (List.mem_of_getElem? (i := 49) rfl) rfl), ⟨by decide, by decide, by decide +kernel⟩⟩
theorem k_T_headOf_28 : kS "RegistryLog$Tree" 39 y_T_firstPart b_T_firstPart 3 (some .int) 1 := ⟨(in_3 (List.mem_of_getElem? (i := 62) rfl) rfl), (in_3 (List.mem_of_getElem? (i := 63) rfl) rfl), (in_1 (List.mem_of_getElem? (i := 20) rfl) rfl), (in_3 (List.mem_of_getElem? (i := 64) rfl) rfl), ⟨by decide, by decide, by decide +kernel⟩⟩
theorem k_T_headOf_35 : kS "RegistryLog$Tree" 43 y_T_headOf b_T_headOf 4 (some .long) 3 := ⟨(in_3 (List.mem_of_getElem? (i := 65) rfl) rfl), (in_3 (List.mem_of_getElem? (i := 59) rfl) rfl), (in_1 (List.mem_of_getElem? (i := 20) rfl) rfl), (in_3 (List.mem_of_getElem? (i := 60) rfl) rfl), ⟨by decide, by decide, by decide +kernel⟩⟩
theorem k_T_headOf_45 : kS "RegistryLog$Tree" 43 y_T_headOf b_T_headOf 4 (some .long) 3 := ⟨(in_3 (List.mem_of_getElem? (i := 65) rfl) rfl), (in_3 (List.mem_of_getElem? (i := 59) rfl) rfl), (in_1 (List.mem_of_getElem? (i := 20) rfl) rfl), (in_3 (List.mem_of_getElem? (i := 60) rfl) rfl), ⟨by decide, by decide, by decide +kernel⟩⟩
theorem k_T_headOf_48 : kS "RegistryLog$Tree" 47 y_T_join b_T_join 4 (some .long) 2 := ⟨(in_3 (List.mem_of_getElem? (i := 66) rfl) rfl), (in_3 (List.mem_of_getElem? (i := 67) rfl) rfl), (in_1 (List.mem_of_getElem? (i := 20) rfl) rfl), (in_3 (List.mem_of_getElem? (i := 68) rfl) rfl), ⟨by decide, by decide, by decide +kernel⟩⟩
set_option maxHeartbeats 4000000 in
set_option maxRecDepth 100000 in
/-- HEAD: n rows of a ledger -/
theorem c_T_headOf (l : Launch) (g : gG) (H : Heap) (a : Nat) (rows : List Rw) (h : isL g H a rows) : ∀ (d from0 n : Nat), 1 ≤ n → n ≤ 2 ^ d → n ≤ 120 → from0 + n ≤ 1000 → d ≤ 7 → Met l y_T_headOf (wC y_T_headOf b_T_headOf 4 (some .long)) (rmk (d + 2) 0 0 (23 * d + 48)) (pC g H [.ref a, .int (nI from0), .int (nI n)]) (qP H (fun v => v = some (.long (hdS (dS rows) from0 n)))) 0 0 no_ := by
  intro d
  induction d with
  | zero =>
    intro from0 n h1 h2 h3 h4 h5
    refine mB (by decide) (Nat.le_of_ble_eq_true rfl) ?_
    intro p e s m below meth c ls C0 hH hZ hnm hl
    have C0 : cF g p s m _ meth c b_T_headOf 4 "RegistryLog$Tree" (some .long) := C0
    obtain ⟨hx, hb, hml, hown, hts, hr, hlk, hK⟩ := id C0
    subst hH
    have hl : lv_has ls 4 [(0, .ref a), (1, .int (nI from0)), (2, .int (nI n))] := hl
    obtain ⟨w, n0, f, f0, f1, hn9, hlen, hrs⟩ := id h
    refine lv_iload_n hx hb d_T_headOf_0 rfl (lv_at hl 2 rfl) ?_
    refine lv_iconst (v := 1) hx hb d_T_headOf_1 (by decide) ?_
    refine lv_icmp_lt (tgt := 11) hx hb d_T_headOf_2 (by decide) (fun c2 => ?_) (fun c2 => ?_)
    · skip
      exact absurd ((nI_ltI (by omega) (by omega)).mp (show nI n < nI 1 from c2)) (by omega)
    · skip
      refine lv_iload_n hx hb d_T_headOf_5 rfl (lv_at hl 2 rfl) ?_
      refine lv_bipush (v := 120) hx hb d_T_headOf_6 (by decide) ?_
      refine lv_icmp_le (tgt := 13) hx hb d_T_headOf_8 (by decide) (fun c8 => ?_) (fun c8 => ?_)
      · skip
        refine lv_iload_n hx hb d_T_headOf_13 rfl (lv_at hl 2 rfl) ?_
        refine lv_iconst (v := 1) hx hb d_T_headOf_14 (by decide) ?_
        refine lv_icmp_ne (tgt := 27) hx hb d_T_headOf_15 (by decide) (fun c15 => ?_) (fun c15 => ?_)
        · skip
          exact absurd (show nI n = nI 1 from by rw [show n = 1 by omega]) c15
        · skip
          have e1 : n = 1 := (nI_eq (by omega) (by omega)).mp (show nI n = nI 1 from c15)
          refine lv_aload_n hx hb d_T_headOf_18 rfl (lv_at hl 0 rfl) ?_
          refine lv_iload_n hx hb d_T_headOf_19 rfl (lv_at hl 1 rfl) ?_
          refine aP (rV (As := [.int (nI from0)]) (rest := []) C0 (c_L_at l g s.heap a rows (nI from0) h) hZ k_T_headOf_20 rfl rfl ⟨by show _ ≤ _; simp only [rmk]; omega, by show _ ≤ _; simp only [rmk]; omega⟩ (isL_recv hK h) rfl hl.1 rfl (Nat.le_of_ble_eq_true rfl) d_T_headOf_20 ⟨Nat.zero_le _, Nat.zero_le _⟩) ?_
          rintro v ⟨r, rfl, hr9⟩
          rw [atS_nat (by omega) hlen] at hr9
          obtain ⟨R9, eR⟩ : ∃ R9, R9 = rows.getD from0 noRw := ⟨_, rfl⟩
          rw [← eR] at hr9
          refine W.eq (g2 := F0 m 23 ls [.ref r]) rfl ?_
          obtain ⟨na, nb, hr90, hr9n, hr9a⟩ := hr9
          refine va_get (D := g.1) (ci := 4) (C := R_R) (T := F_R) (N := 8) hx hb hts i_R hown hK.1 hr90 0 rfl rfl 7 (by decide) (hts (.fieldLink "RegistryLog$Tree" 33 "RegistryLog$Row" "digest" "J") (in_2 (List.mem_of_getElem? (i := 201) rfl) rfl)) (fun _ h9 => h9) rfl d_T_headOf_23 ?_
          exact W.lret hx hb hr (fun t9 ht hW => ⟨_, rfl, by rw [e1, hdS_1, dS, ← eR], ht⟩) (fun q h => by cases h) d_T_headOf_26 hlk
      · skip
        exact absurd (show nI n ≤ nI 120 from nI_le h3 (by omega)) c8
  | succ d ih =>
    intro from0 n h1 h2 h3 h4 h5
    refine mB (by decide) (Nat.le_of_ble_eq_true rfl) ?_
    intro p e s m below meth c ls C0 hH hZ hnm hl
    have C0 : cF g p s m _ meth c b_T_headOf 4 "RegistryLog$Tree" (some .long) := C0
    obtain ⟨hx, hb, hml, hown, hts, hr, hlk, hK⟩ := id C0
    subst hH
    have hl : lv_has ls 4 [(0, .ref a), (1, .int (nI from0)), (2, .int (nI n))] := hl
    obtain ⟨w, n0, f, f0, f1, hn9, hlen, hrs⟩ := id h
    refine lv_iload_n hx hb d_T_headOf_0 rfl (lv_at hl 2 rfl) ?_
    refine lv_iconst (v := 1) hx hb d_T_headOf_1 (by decide) ?_
    refine lv_icmp_lt (tgt := 11) hx hb d_T_headOf_2 (by decide) (fun c2 => ?_) (fun c2 => ?_)
    · skip
      exact absurd ((nI_ltI (by omega) (by omega)).mp (show nI n < nI 1 from c2)) (by omega)
    · skip
      refine lv_iload_n hx hb d_T_headOf_5 rfl (lv_at hl 2 rfl) ?_
      refine lv_bipush (v := 120) hx hb d_T_headOf_6 (by decide) ?_
      refine lv_icmp_le (tgt := 13) hx hb d_T_headOf_8 (by decide) (fun c8 => ?_) (fun c8 => ?_)
      · skip
        refine lv_iload_n hx hb d_T_headOf_13 rfl (lv_at hl 2 rfl) ?_
        refine lv_iconst (v := 1) hx hb d_T_headOf_14 (by decide) ?_
        refine lv_icmp_ne (tgt := 27) hx hb d_T_headOf_15 (by decide) (fun c15 => ?_) (fun c15 => ?_)
        · skip
          have h9 : 2 ≤ n := by rcases Nat.lt_or_ge n 2 with q | q; exact absurd (show nI n = nI 1 from by rw [show n = 1 by omega]) c15; exact q
          have hlt9 := fpS_lt h9
          have hps9 := fpS_pos n
          refine lv_iload_n hx hb d_T_headOf_27 rfl (lv_at hl 2 rfl) ?_
          refine aP (rS (As := [.int (nI n)]) (rest := []) C0 (c_T_firstPart l g s.heap n h3) hZ k_T_headOf_28 rfl rfl ⟨by show _ ≤ _; simp only [rmk]; omega, by show _ ≤ _; simp only [rmk]; omega⟩ rfl hl.1 rfl (Nat.le_of_ble_eq_true rfl) d_T_headOf_28 ⟨Nat.zero_le _, Nat.zero_le _⟩) ?_
          intro v hv; subst hv
          refine W.eq (g2 := F0 m 31 ls [.int (nI (fpS n))]) rfl ?_
          refine lv_istore_n (lv' := [(3, .int (nI (fpS n))), (0, .ref a), (1, .int (nI from0)), (2, .int (nI n))]) hx hb d_T_headOf_31 rfl hl (by decide) rfl (fun ls hl => ?_)
          refine lv_aload_n hx hb d_T_headOf_32 rfl (lv_at hl 1 rfl) ?_
          refine lv_iload_n hx hb d_T_headOf_33 rfl (lv_at hl 2 rfl) ?_
          refine lv_iload_n hx hb d_T_headOf_34 rfl (lv_at hl 0 rfl) ?_
          refine aP (rS (As := [.ref a, .int (nI from0), .int (nI (fpS n))]) (rest := []) C0 (ih from0 (fpS n) (fpS_pos n) (fpS_half n (by omega) h9 d (by omega) h2).1 (by omega) (by omega) (by omega)) hZ k_T_headOf_35 rfl rfl ⟨by show _ ≤ _; simp only [rmk]; omega, by show _ ≤ _; simp only [rmk]; omega⟩ rfl hl.1 rfl (Nat.le_of_ble_eq_true rfl) d_T_headOf_35 ⟨Nat.zero_le _, Nat.zero_le _⟩) ?_
          intro v hv; subst hv
          refine W.eq (g2 := F0 m 38 ls [.long (hdS (dS rows) from0 (fpS n))]) rfl ?_
          refine lv_aload_n hx hb d_T_headOf_38 rfl (lv_at hl 1 rfl) ?_
          refine lv_iload_n hx hb d_T_headOf_39 rfl (lv_at hl 2 rfl) ?_
          refine lv_iload_n hx hb d_T_headOf_40 rfl (lv_at hl 0 rfl) ?_
          refine lv_iadd hx hb d_T_headOf_41 ?_
          refine lv_iload_n hx hb d_T_headOf_42 rfl (lv_at hl 3 rfl) ?_
          refine lv_iload_n hx hb d_T_headOf_43 rfl (lv_at hl 0 rfl) ?_
          refine lv_isub hx hb d_T_headOf_44 ?_
          rw [show ((nI from0) + (nI (fpS n))) = nI (from0 + fpS n) from nI_add _ _, show ((nI n) - (nI (fpS n))) = nI (n - fpS n) from pk_sub (by omega)]
          refine aP (rS (As := [.ref a, .int (nI (from0 + fpS n)), .int (nI (n - fpS n))]) (rest := [.long (hdS (dS rows) from0 (fpS n))]) C0 (ih (from0 + fpS n) (n - fpS n) (by omega) (fpS_half n (by omega) h9 d (by omega) h2).2 (by omega) (by omega) (by omega)) hZ k_T_headOf_45 rfl rfl ⟨by show _ ≤ _; simp only [rmk]; omega, by show _ ≤ _; simp only [rmk]; omega⟩ rfl hl.1 rfl (Nat.le_of_ble_eq_true rfl) d_T_headOf_45 ⟨Nat.zero_le _, Nat.zero_le _⟩) ?_
          intro v hv; subst hv
          refine W.eq (g2 := F0 m 48 ls [.long (hdS (dS rows) (from0 + fpS n) (n - fpS n)), .long (hdS (dS rows) from0 (fpS n))]) rfl ?_
          refine aP (rS (As := [.long (hdS (dS rows) from0 (fpS n)), .long (hdS (dS rows) (from0 + fpS n) (n - fpS n))]) (rest := []) C0 (c_T_join l g s.heap (hdS (dS rows) from0 (fpS n)) (hdS (dS rows) (from0 + fpS n) (n - fpS n))) hZ k_T_headOf_48 rfl rfl ⟨by show _ ≤ _; simp only [rmk]; omega, by show _ ≤ _; simp only [rmk]; omega⟩ rfl hl.1 rfl (Nat.le_of_ble_eq_true rfl) d_T_headOf_48 ⟨Nat.zero_le _, Nat.zero_le _⟩) ?_
          intro v hv; subst hv
          refine W.eq (g2 := F0 m 51 ls [.long (joinS (hdS (dS rows) from0 (fpS n)) (hdS (dS rows) (from0 + fpS n) (n - fpS n)))]) rfl ?_
          exact W.lret hx hb hr (fun t9 ht hW => ⟨_, rfl, by rw [hdS_n _ _ h9], ht⟩) (fun q h => by cases h) d_T_headOf_51 hlk
        · skip
          have e1 : n = 1 := (nI_eq (by omega) (by omega)).mp (show nI n = nI 1 from c15)
          refine lv_aload_n hx hb d_T_headOf_18 rfl (lv_at hl 0 rfl) ?_
          refine lv_iload_n hx hb d_T_headOf_19 rfl (lv_at hl 1 rfl) ?_
          refine aP (rV (As := [.int (nI from0)]) (rest := []) C0 (c_L_at l g s.heap a rows (nI from0) h) hZ k_T_headOf_20 rfl rfl ⟨by show _ ≤ _; simp only [rmk]; omega, by show _ ≤ _; simp only [rmk]; omega⟩ (isL_recv hK h) rfl hl.1 rfl (Nat.le_of_ble_eq_true rfl) d_T_headOf_20 ⟨Nat.zero_le _, Nat.zero_le _⟩) ?_
          rintro v ⟨r, rfl, hr9⟩
          rw [atS_nat (by omega) hlen] at hr9
          obtain ⟨R9, eR⟩ : ∃ R9, R9 = rows.getD from0 noRw := ⟨_, rfl⟩
          rw [← eR] at hr9
          refine W.eq (g2 := F0 m 23 ls [.ref r]) rfl ?_
          obtain ⟨na, nb, hr90, hr9n, hr9a⟩ := hr9
          refine va_get (D := g.1) (ci := 4) (C := R_R) (T := F_R) (N := 8) hx hb hts i_R hown hK.1 hr90 0 rfl rfl 7 (by decide) (hts (.fieldLink "RegistryLog$Tree" 33 "RegistryLog$Row" "digest" "J") (in_2 (List.mem_of_getElem? (i := 201) rfl) rfl)) (fun _ h9 => h9) rfl d_T_headOf_23 ?_
          exact W.lret hx hb hr (fun t9 ht hW => ⟨_, rfl, by rw [e1, hdS_1, dS, ← eR], ht⟩) (fun q h => by cases h) d_T_headOf_26 hlk
      · skip
        exact absurd (show nI n ≤ nI 120 from nI_le h3 (by omega)) c8
end
section
def rowS (r : Rw) (what : Int32) : Int32 := if what = 0 then rk r else if what = 1 then rp r else if what = 2 then r2 r else if what = 3 then r3 r else -1
/-- which ledger a mirror's number names -/
def mirA (mf : Nat → Option Nat) (nm : Nat) (i : Int32) : Option Nat := if 0 ≤ i ∧ i < 4 then mf i.toNatClampNeg else some nm
def mirS (mir : Nat → List Rw) (i : Int32) : List Rw := if 0 ≤ i ∧ i < 4 then mir i.toNatClampNeg else []
theorem isL_size {g : gG} {H : Heap} {l : Launch} {a : Nat} {rows : List Rw} (h : isL g H a rows) : Met l y_L_size (wC y_L_size b_L_size 1 (some .int)) (rmk 0 0 0 0) (pC g H [.ref a]) (qP H (fun v => v = some (.int (nI rows.length)))) 0 0 no_ := by
  obtain ⟨w, n, f, f0, -⟩ := h
  exact c_L_size l g H a w n _ f0
theorem mirA_ok {g : gG} {H : Heap} {mf : Nat → Option Nat} {nm : Nat} {mir : Nat → List Rw} (hm : ∀ j, j < 4 → ∃ q, mf j = some q ∧ isL g H q (mir j)) (hn : isL g H nm []) (i : Int32) : ∃ q, mirA mf nm i = some q ∧ isL g H q (mirS mir i) := by
  by_cases h : 0 ≤ i ∧ i < 4
  · obtain ⟨j, h1, h2⟩ := nI_of (Int32.not_lt.mpr h.1)
    have h3 : j < 4 := (nI_ltI h1 (by decide)).mp (by rw [← h2]; exact h.2)
    obtain ⟨q, e, hq⟩ := hm j h3
    refine ⟨q, ?_, ?_⟩
    · rw [mirA, if_pos h, h2, nI_clamp h1]; exact e
    · rw [mirS, if_pos h, h2, nI_clamp h1]; exact hq
  · exact ⟨nm, by rw [mirA, if_neg h], by rw [mirS, if_neg h]; exact hn⟩

theorem k_X_rows_4 : kV "RegistryLog" 80 "RegistryLog$Ledger" y_L_size b_L_size 1 (some .int) 0 := ⟨(in_3 (List.mem_of_getElem? (i := 38) rfl) rfl), (in_3 (List.mem_of_getElem? (i := 39) rfl) rfl), (in_3 (List.mem_of_getElem? (i := 40) rfl) rfl), (in_1 (List.mem_of_getElem? (i := 6) rfl) rfl), (in_3 (List.mem_of_getElem? (i := 41) rfl) rfl), ⟨by decide, by decide, by decide +kernel⟩⟩
set_option maxHeartbeats 4000000 in
set_option maxRecDepth 100000 in
/-- rows() -/
theorem c_X_rows (l : Launch) (g : gG) (H : Heap) (x sb lg ms nm pr hd : Nat) (f0 : ob g H x 0 [.ref sb, .ref lg, .ref ms, .ref nm, .ref pr, .ref hd]) (rows : List Rw) (h : isL g H lg rows) : Met l y_X_rows (wC y_X_rows b_X_rows 1 (some .int)) (rmk 1 0 0 20) (pC g H [.ref x]) (qP H (fun v => v = some (.int (nI rows.length)))) 0 0 no_ := by
  refine mB (by decide) (Nat.le_of_ble_eq_true rfl) ?_
  intro p e s m below meth c ls C0 hH hZ hnm hl
  have C0 : cF g p s m _ meth c b_X_rows 1 "RegistryLog" (some .int) := C0
  obtain ⟨hx, hb, hml, hown, hts, hr, hlk, hK⟩ := id C0
  subst hH
  have hl : lv_has ls 1 [(0, .ref x)] := hl
  refine lv_aload_n hx hb d_X_rows_0 rfl (lv_at hl 0 rfl) ?_
  refine va_get (D := g.1) (ci := 0) (C := R_X) (T := F_X) (N := 6) hx hb hts i_X hown hK.1 f0 0 rfl rfl 1 (by decide) (hts (.fieldLink "RegistryLog" 19 "RegistryLog" "log" "LRegistryLog$Ledger;") (in_3 (List.mem_of_getElem? (i := 10) rfl) rfl)) (fun _ h9 => h9) rfl d_X_rows_1 ?_
  refine aP (rV (As := []) (rest := []) C0 (isL_size h) hZ k_X_rows_4 rfl rfl ⟨Nat.le_of_ble_eq_true rfl, Nat.le_of_ble_eq_true rfl⟩ (isL_recv hK h) rfl hl.1 rfl (Nat.le_of_ble_eq_true rfl) d_X_rows_4 ⟨Nat.zero_le _, Nat.zero_le _⟩) ?_
  intro v hv; subst hv
  refine W.eq (g2 := F0 m 7 ls [.int (nI rows.length)]) rfl ?_
  exact W.iret hx hb hr (fun t9 ht hW => ⟨_, rfl, rfl, ht⟩) (fun q h => by cases h) d_X_rows_7 hlk
theorem k_X_row_5 : kV "RegistryLog" 133 "RegistryLog$Ledger" y_L_at b_L_at 2 (some (.object "RegistryLog$Row")) 1 := ⟨(in_3 (List.mem_of_getElem? (i := 46) rfl) rfl), (in_3 (List.mem_of_getElem? (i := 47) rfl) rfl), (in_3 (List.mem_of_getElem? (i := 48) rfl) rfl), (in_1 (List.mem_of_getElem? (i := 6) rfl) rfl), (in_3 (List.mem_of_getElem? (i := 49) rfl) rfl), ⟨by decide, by decide, by decide +kernel⟩⟩
theorem sw4 {x : Int32} (h0 : ¬ x = 0) (h1 : ¬ x = 1) (h2 : ¬ x = 2) (h3 : ¬ x = 3) : x.toInt < 0 ∨ 3 < x.toInt := by
  have q0 : x.toInt ≠ 0 := fun z => h0 (Int32.toInt_inj.mp (z.trans (by decide)))
  have q1 : x.toInt ≠ 1 := fun z => h1 (Int32.toInt_inj.mp (z.trans (by decide)))
  have q2 : x.toInt ≠ 2 := fun z => h2 (Int32.toInt_inj.mp (z.trans (by decide)))
  have q3 : x.toInt ≠ 3 := fun z => h3 (Int32.toInt_inj.mp (z.trans (by decide)))
  omega
set_option maxHeartbeats 4000000 in
set_option maxRecDepth 100000 in
/-- row(i, what) -/
theorem c_X_row (l : Launch) (g : gG) (H : Heap) (x sb lg ms nm pr hd : Nat) (f0 : ob g H x 0 [.ref sb, .ref lg, .ref ms, .ref nm, .ref pr, .ref hd]) (rows : List Rw) (h : isL g H lg rows) (i what : Int32) : Met l y_X_row (wC y_X_row b_X_row 4 (some .int)) (rmk 1 0 0 21) (pC g H [.ref x, .int i, .int what]) (qP H (fun v => v = some (.int (rowS (atS rows i) what)))) 0 0 no_ := by
  refine mB (by decide) (Nat.le_of_ble_eq_true rfl) ?_
  intro p e s m below meth c ls C0 hH hZ hnm hl
  have C0 : cF g p s m _ meth c b_X_row 4 "RegistryLog" (some .int) := C0
  obtain ⟨hx, hb, hml, hown, hts, hr, hlk, hK⟩ := id C0
  subst hH
  have hl : lv_has ls 4 [(0, .ref x), (1, .int i), (2, .int what)] := hl
  refine lv_aload_n hx hb d_X_row_0 rfl (lv_at hl 0 rfl) ?_
  refine va_get (D := g.1) (ci := 0) (C := R_X) (T := F_X) (N := 6) hx hb hts i_X hown hK.1 f0 0 rfl rfl 1 (by decide) (hts (.fieldLink "RegistryLog" 19 "RegistryLog" "log" "LRegistryLog$Ledger;") (in_3 (List.mem_of_getElem? (i := 10) rfl) rfl)) (fun _ h9 => h9) rfl d_X_row_1 ?_
  refine lv_iload_n hx hb d_X_row_4 rfl (lv_at hl 1 rfl) ?_
  refine aP (rV (As := [.int i]) (rest := []) C0 (c_L_at l g s.heap lg rows i h) hZ k_X_row_5 rfl rfl ⟨Nat.le_of_ble_eq_true rfl, Nat.le_of_ble_eq_true rfl⟩ (isL_recv hK h) rfl hl.1 rfl (Nat.le_of_ble_eq_true rfl) d_X_row_5 ⟨Nat.zero_le _, Nat.zero_le _⟩) ?_
  rintro v ⟨r, rfl, hr9⟩
  obtain ⟨R9, eR⟩ : ∃ R9, R9 = atS rows i := ⟨_, rfl⟩
  rw [← eR] at hr9
  refine W.eq (g2 := F0 m 8 ls [.ref r]) rfl ?_
  obtain ⟨na, nb, hr90, hr9n, hr9a⟩ := hr9
  refine lv_astore_n (lv' := [(3, .ref r), (0, .ref x), (1, .int i), (2, .int what)]) hx hb d_X_row_8 rfl hl (by decide) rfl (fun ls hl => ?_)
  refine lv_iload_n hx hb d_X_row_9 rfl (lv_at hl 3 rfl) ?_
  by_cases w0 : what = 0
  · subst w0
    refine lv_tableIn (tgt := 40) hx hb d_X_row_10 (by decide) (by decide) rfl (by decide) ?_
    refine lv_aload_n hx hb d_X_row_40 rfl (lv_at hl 0 rfl) ?_
    refine va_get (D := g.1) (ci := 4) (C := R_R) (T := F_R) (N := 8) hx hb hts i_R hown hK.1 hr90 0 rfl rfl 0 (by decide) (hts (.fieldLink "RegistryLog" 137 "RegistryLog$Row" "kind" "I") (in_2 (List.mem_of_getElem? (i := 184) rfl) rfl)) (fun _ h9 => h9) rfl d_X_row_41 ?_
    exact W.iret hx hb hr (fun t9 ht hW => ⟨_, rfl, by rw [← eR]; rfl, ht⟩) (fun q h => by cases h) d_X_row_44 hlk
  by_cases w1 : what = 1
  · subst w1
    refine lv_tableIn (tgt := 45) hx hb d_X_row_10 (by decide) (by decide) rfl (by decide) ?_
    refine lv_aload_n hx hb d_X_row_45 rfl (lv_at hl 0 rfl) ?_
    refine va_get (D := g.1) (ci := 4) (C := R_R) (T := F_R) (N := 8) hx hb hts i_R hown hK.1 hr90 0 rfl rfl 1 (by decide) (hts (.fieldLink "RegistryLog" 141 "RegistryLog$Row" "person" "I") (in_2 (List.mem_of_getElem? (i := 187) rfl) rfl)) (fun _ h9 => h9) rfl d_X_row_46 ?_
    exact W.iret hx hb hr (fun t9 ht hW => ⟨_, rfl, by rw [← eR]; rfl, ht⟩) (fun q h => by cases h) d_X_row_49 hlk
  by_cases w2 : what = 2
  · subst w2
    refine lv_tableIn (tgt := 50) hx hb d_X_row_10 (by decide) (by decide) rfl (by decide) ?_
    refine lv_aload_n hx hb d_X_row_50 rfl (lv_at hl 0 rfl) ?_
    refine va_get (D := g.1) (ci := 4) (C := R_R) (T := F_R) (N := 8) hx hb hts i_R hown hK.1 hr90 0 rfl rfl 4 (by decide) (hts (.fieldLink "RegistryLog" 144 "RegistryLog$Row" "second" "I") (in_2 (List.mem_of_getElem? (i := 193) rfl) rfl)) (fun _ h9 => h9) rfl d_X_row_51 ?_
    exact W.iret hx hb hr (fun t9 ht hW => ⟨_, rfl, by rw [← eR]; rfl, ht⟩) (fun q h => by cases h) d_X_row_54 hlk
  by_cases w3 : what = 3
  · subst w3
    refine lv_tableIn (tgt := 55) hx hb d_X_row_10 (by decide) (by decide) rfl (by decide) ?_
    refine lv_aload_n hx hb d_X_row_55 rfl (lv_at hl 0 rfl) ?_
    refine va_get (D := g.1) (ci := 4) (C := R_R) (T := F_R) (N := 8) hx hb hts i_R hown hK.1 hr90 0 rfl rfl 5 (by decide) (hts (.fieldLink "RegistryLog" 147 "RegistryLog$Row" "third" "I") (in_2 (List.mem_of_getElem? (i := 196) rfl) rfl)) (fun _ h9 => h9) rfl d_X_row_56 ?_
    exact W.iret hx hb hr (fun t9 ht hW => ⟨_, rfl, by rw [← eR]; rfl, ht⟩) (fun q h => by cases h) d_X_row_59 hlk
  refine lv_tableOut (tgt := 60) hx hb d_X_row_10 (sw4 w0 w1 w2 w3) (by decide) ?_
  refine lv_iconst (v := (-1)) hx hb d_X_row_60 (by decide) ?_
  exact W.iret hx hb hr (fun t9 ht hW => ⟨_, rfl, by rw [rowS, if_neg w0, if_neg w1, if_neg w2, if_neg w3], ht⟩) (fun q h => by cases h) d_X_row_61 hlk
theorem k_X_digest_5 : kV "RegistryLog" 133 "RegistryLog$Ledger" y_L_at b_L_at 2 (some (.object "RegistryLog$Row")) 1 := ⟨(in_3 (List.mem_of_getElem? (i := 46) rfl) rfl), (in_3 (List.mem_of_getElem? (i := 47) rfl) rfl), (in_3 (List.mem_of_getElem? (i := 48) rfl) rfl), (in_1 (List.mem_of_getElem? (i := 6) rfl) rfl), (in_3 (List.mem_of_getElem? (i := 49) rfl) rfl), ⟨by decide, by decide, by decide +kernel⟩⟩
set_option maxHeartbeats 4000000 in
set_option maxRecDepth 100000 in
/-- digest(i) -/
theorem c_X_digest (l : Launch) (g : gG) (H : Heap) (x sb lg ms nm pr hd : Nat) (f0 : ob g H x 0 [.ref sb, .ref lg, .ref ms, .ref nm, .ref pr, .ref hd]) (rows : List Rw) (h : isL g H lg rows) (i : Int32) : Met l y_X_digest (wC y_X_digest b_X_digest 2 (some .long)) (rmk 1 0 0 21) (pC g H [.ref x, .int i]) (qP H (fun v => v = some (.long (digS (atS rows i))))) 0 0 no_ := by
  refine mB (by decide) (Nat.le_of_ble_eq_true rfl) ?_
  intro p e s m below meth c ls C0 hH hZ hnm hl
  have C0 : cF g p s m _ meth c b_X_digest 2 "RegistryLog" (some .long) := C0
  obtain ⟨hx, hb, hml, hown, hts, hr, hlk, hK⟩ := id C0
  subst hH
  have hl : lv_has ls 2 [(0, .ref x), (1, .int i)] := hl
  refine lv_aload_n hx hb d_X_digest_0 rfl (lv_at hl 0 rfl) ?_
  refine va_get (D := g.1) (ci := 0) (C := R_X) (T := F_X) (N := 6) hx hb hts i_X hown hK.1 f0 0 rfl rfl 1 (by decide) (hts (.fieldLink "RegistryLog" 19 "RegistryLog" "log" "LRegistryLog$Ledger;") (in_3 (List.mem_of_getElem? (i := 10) rfl) rfl)) (fun _ h9 => h9) rfl d_X_digest_1 ?_
  refine lv_iload_n hx hb d_X_digest_4 rfl (lv_at hl 1 rfl) ?_
  refine aP (rV (As := [.int i]) (rest := []) C0 (c_L_at l g s.heap lg rows i h) hZ k_X_digest_5 rfl rfl ⟨Nat.le_of_ble_eq_true rfl, Nat.le_of_ble_eq_true rfl⟩ (isL_recv hK h) rfl hl.1 rfl (Nat.le_of_ble_eq_true rfl) d_X_digest_5 ⟨Nat.zero_le _, Nat.zero_le _⟩) ?_
  rintro v ⟨r, rfl, hr9⟩
  obtain ⟨R9, eR⟩ : ∃ R9, R9 = atS rows i := ⟨_, rfl⟩
  rw [← eR] at hr9
  refine W.eq (g2 := F0 m 8 ls [.ref r]) rfl ?_
  obtain ⟨na, nb, hr90, hr9n, hr9a⟩ := hr9
  refine va_get (D := g.1) (ci := 4) (C := R_R) (T := F_R) (N := 8) hx hb hts i_R hown hK.1 hr90 0 rfl rfl 7 (by decide) (hts (.fieldLink "RegistryLog" 150 "RegistryLog$Row" "digest" "J") (in_2 (List.mem_of_getElem? (i := 202) rfl) rfl)) (fun _ h9 => h9) rfl d_X_digest_8 ?_
  exact W.lret hx hb hr (fun t9 ht hW => ⟨_, rfl, by rw [← eR], ht⟩) (fun q h => by cases h) d_X_digest_11 hlk
set_option maxHeartbeats 4000000 in
set_option maxRecDepth 100000 in
theorem c_T_headOf0 (l : Launch) (g : gG) (H : Heap) (a : Nat) (k : Int32) (n : Int32) (hn : n < 1) : Met l y_T_headOf (wC y_T_headOf b_T_headOf 4 (some .long)) (rmk (7 + 2) 0 0 (23 * 7 + 48)) (pC g H [.ref a, .int k, .int n]) (qP H (fun v => v = some (.long 0))) 0 0 no_ := by
  refine mB (by decide) (Nat.le_of_ble_eq_true rfl) ?_
  intro p e s m below meth c ls C0 hH hZ hnm hl
  have C0 : cF g p s m _ meth c b_T_headOf 4 "RegistryLog$Tree" (some .long) := C0
  obtain ⟨hx, hb, hml, hown, hts, hr, hlk, hK⟩ := id C0
  subst hH
  have hl : lv_has ls 4 [(0, .ref a), (1, .int k), (2, .int n)] := hl
  refine lv_iload_n hx hb d_T_headOf_0 rfl (lv_at hl 2 rfl) ?_
  refine lv_iconst (v := 1) hx hb d_T_headOf_1 (by decide) ?_
  refine lv_icmp_lt (tgt := 11) hx hb d_T_headOf_2 (by decide) (fun c2 => ?_) (fun c2 => ?_)
  · skip
    refine lv_lconst (v := 0) hx hb d_T_headOf_11 (by decide) ?_
    exact W.lret hx hb hr (fun t9 ht hW => ⟨_, rfl, rfl, ht⟩) (fun q h => by cases h) d_T_headOf_12 hlk
  · skip
    exact absurd hn c2
def headS (rows : List Rw) (n : Int32) : Int64 := if 1 ≤ n ∧ n ≤ nI rows.length then hdS (dS rows) 0 n.toNatClampNeg else 0
theorem m_head {l : Launch} {g : gG} {H : Heap} {a : Nat} {rows : List Rw} {n : Int32} (h : isL g H a rows) (hn : n ≤ nI rows.length) : Met l y_T_headOf (wC y_T_headOf b_T_headOf 4 (some .long)) (rmk (7 + 2) 0 0 (23 * 7 + 48)) (pC g H [.ref a, .int 0, .int n]) (qP H (fun v => v = some (.long (headS rows n)))) 0 0 no_ := by
  obtain ⟨w, n0, f, f0, f1, hn9, hlen, hrs⟩ := id h
  by_cases h1 : n < 1
  · have e : headS rows n = 0 := by rw [headS, if_neg (fun z => absurd z.1 (Int32.not_le.mpr h1))]
    rw [e]
    exact c_T_headOf0 l g H a 0 n h1
  · have h2 : 1 ≤ n := Int32.not_lt.mp h1
    obtain ⟨k, hk, ek⟩ := nI_of (x := n) (fun z => h1 (Int32.lt_trans z (by decide)))
    subst ek
    have k1 : 1 ≤ k := (nI_leI (by decide) hk).mp h2
    have k2 : k ≤ rows.length := (nI_leI hk (by omega)).mp hn
    have e : headS rows (nI k) = hdS (dS rows) 0 k := by rw [headS, if_pos ⟨h2, hn⟩, nI_clamp hk]
    rw [e]
    exact c_T_headOf l g H a rows h 7 0 k k1 (by omega) (by omega) (by omega) (by omega)
theorem k_X_head_5 : kV "RegistryLog" 80 "RegistryLog$Ledger" y_L_size b_L_size 1 (some .int) 0 := ⟨(in_3 (List.mem_of_getElem? (i := 38) rfl) rfl), (in_3 (List.mem_of_getElem? (i := 39) rfl) rfl), (in_3 (List.mem_of_getElem? (i := 40) rfl) rfl), (in_1 (List.mem_of_getElem? (i := 6) rfl) rfl), (in_3 (List.mem_of_getElem? (i := 41) rfl) rfl), ⟨by decide, by decide, by decide +kernel⟩⟩
theorem k_X_head_21 : kN "RegistryLog" 154 y_T_headOf "RegistryLog" b_T_headOf 4 (some .long) 3 := ⟨List.mem_of_getElem? (i := 0) rfl, (in_3 (List.mem_of_getElem? (i := 59) rfl) rfl), (in_1 (List.mem_of_getElem? (i := 20) rfl) rfl), (in_3 (List.mem_of_getElem? (i := 60) rfl) rfl), ⟨by decide, by decide, by decide +kernel⟩⟩
set_option maxHeartbeats 4000000 in
set_option maxRecDepth 100000 in
/-- head(n) -/
theorem c_X_head (l : Launch) (g : gG) (H : Heap) (x sb lg ms nm pr hd : Nat) (f0 : ob g H x 0 [.ref sb, .ref lg, .ref ms, .ref nm, .ref pr, .ref hd]) (rows : List Rw) (h : isL g H lg rows) (n : Int32) : Met l y_X_head (wC y_X_head b_X_head 2 (some .long)) (rmk 10 0 0 232) (pC g H [.ref x, .int n]) (qP H (fun v => v = some (.long (headS rows n)))) 0 0 no_ := by
  refine mB (by decide) (Nat.le_of_ble_eq_true rfl) ?_
  intro p e s m below meth c ls C0 hH hZ hnm hl
  have C0 : cF g p s m _ meth c b_X_head 2 "RegistryLog" (some .long) := C0
  obtain ⟨hx, hb, hml, hown, hts, hr, hlk, hK⟩ := id C0
  subst hH
  have hl : lv_has ls 2 [(0, .ref x), (1, .int n)] := hl
  refine lv_iload_n hx hb d_X_head_0 rfl (lv_at hl 1 rfl) ?_
  refine lv_aload_n hx hb d_X_head_1 rfl (lv_at hl 0 rfl) ?_
  refine va_get (D := g.1) (ci := 0) (C := R_X) (T := F_X) (N := 6) hx hb hts i_X hown hK.1 f0 0 rfl rfl 1 (by decide) (hts (.fieldLink "RegistryLog" 19 "RegistryLog" "log" "LRegistryLog$Ledger;") (in_3 (List.mem_of_getElem? (i := 10) rfl) rfl)) (fun _ h9 => h9) rfl d_X_head_2 ?_
  refine aP (rV (As := []) (rest := [.int n]) C0 (isL_size h) hZ k_X_head_5 rfl rfl ⟨Nat.le_of_ble_eq_true rfl, Nat.le_of_ble_eq_true rfl⟩ (isL_recv hK h) rfl hl.1 rfl (Nat.le_of_ble_eq_true rfl) d_X_head_5 ⟨Nat.zero_le _, Nat.zero_le _⟩) ?_
  intro v hv; subst hv
  refine W.eq (g2 := F0 m 8 ls [.int (nI rows.length), .int n]) rfl ?_
  refine lv_icmp_le (tgt := 15) hx hb d_X_head_8 (by decide) (fun c8 => ?_) (fun c8 => ?_)
  · skip
    refine lv_aload_n hx hb d_X_head_15 rfl (lv_at hl 0 rfl) ?_
    refine va_get (D := g.1) (ci := 0) (C := R_X) (T := F_X) (N := 6) hx hb hts i_X hown hK.1 f0 0 rfl rfl 1 (by decide) (hts (.fieldLink "RegistryLog" 19 "RegistryLog" "log" "LRegistryLog$Ledger;") (in_3 (List.mem_of_getElem? (i := 10) rfl) rfl)) (fun _ h9 => h9) rfl d_X_head_16 ?_
    refine lv_iconst (v := 0) hx hb d_X_head_19 (by decide) ?_
    refine lv_iload_n hx hb d_X_head_20 rfl (lv_at hl 1 rfl) ?_
    refine aP (rN (As := [.ref lg, .int 0, .int n]) (rest := []) C0 (m_head h c8) hZ k_X_head_21 rfl rfl ⟨Nat.le_of_ble_eq_true rfl, Nat.le_of_ble_eq_true rfl⟩ rfl hl.1 rfl (Nat.le_of_ble_eq_true rfl) d_X_head_21 ⟨Nat.zero_le _, Nat.zero_le _⟩) ?_
    intro v hv; subst hv
    refine W.eq (g2 := F0 m 24 ls [.long (headS rows n)]) rfl ?_
    exact W.lret hx hb hr (fun t9 ht hW => ⟨_, rfl, rfl, ht⟩) (fun q h => by cases h) d_X_head_24 hlk
  · skip
    refine lv_lconst (v := 0) hx hb d_X_head_11 (by decide) ?_
    refine lv_goto (tgt := 24) hx hb d_X_head_12 (by decide) ?_
    exact W.lret hx hb hr (fun t9 ht hW => ⟨_, rfl, by rw [headS, if_neg (fun z => c8 z.2)], ht⟩) (fun q h => by cases h) d_X_head_24 hlk
theorem k_X_proof_5 : kV "RegistryLog" 172 "RegistryLog$Numbers" y_U_get b_U_get 2 (some .long) 1 := ⟨(in_3 (List.mem_of_getElem? (i := 101) rfl) rfl), (in_3 (List.mem_of_getElem? (i := 102) rfl) rfl), (in_3 (List.mem_of_getElem? (i := 103) rfl) rfl), (in_1 (List.mem_of_getElem? (i := 21) rfl) rfl), (in_3 (List.mem_of_getElem? (i := 104) rfl) rfl), ⟨by decide, by decide, by decide +kernel⟩⟩
set_option maxHeartbeats 4000000 in
set_option maxRecDepth 100000 in
/-- proof(k) -/
theorem c_X_proof (l : Launch) (g : gG) (H : Heap) (x sb lg ms nm pr hd : Nat) (f0 : ob g H x 0 [.ref sb, .ref lg, .ref ms, .ref nm, .ref pr, .ref hd]) (pv : Nat) (pf : Nat → Int64) (pk pq : Nat) (h : isU g H pr pv pf pk pq) (i : Int32) : Met l y_X_proof (wC y_X_proof b_X_proof 2 (some .long)) (rmk 1 0 0 21) (pC g H [.ref x, .int i]) (qP H (fun v => v = some (.long (getS pf pk i)))) 0 0 no_ := by
  refine mB (by decide) (Nat.le_of_ble_eq_true rfl) ?_
  intro p e s m below meth c ls C0 hH hZ hnm hl
  have C0 : cF g p s m _ meth c b_X_proof 2 "RegistryLog" (some .long) := C0
  obtain ⟨hx, hb, hml, hown, hts, hr, hlk, hK⟩ := id C0
  subst hH
  have hl : lv_has ls 2 [(0, .ref x), (1, .int i)] := hl
  refine lv_aload_n hx hb d_X_proof_0 rfl (lv_at hl 0 rfl) ?_
  refine va_get (D := g.1) (ci := 0) (C := R_X) (T := F_X) (N := 6) hx hb hts i_X hown hK.1 f0 0 rfl rfl 4 (by decide) (hts (.fieldLink "RegistryLog" 33 "RegistryLog" "latestProof" "LRegistryLog$Numbers;") (in_3 (List.mem_of_getElem? (i := 13) rfl) rfl)) (fun _ h9 => h9) rfl d_X_proof_1 ?_
  refine lv_iload_n hx hb d_X_proof_4 rfl (lv_at hl 1 rfl) ?_
  refine aP (rV (As := [.int i]) (rest := []) C0 (c_U_get l g s.heap pr pv pf pk pq i h) hZ k_X_proof_5 rfl rfl ⟨Nat.le_of_ble_eq_true rfl, Nat.le_of_ble_eq_true rfl⟩ (ob_recv (ci := 3) (q := (R_U, F_U, 3)) hK h.1 rfl) rfl hl.1 rfl (Nat.le_of_ble_eq_true rfl) d_X_proof_5 ⟨Nat.zero_le _, Nat.zero_le _⟩) ?_
  intro v hv; subst hv
  refine W.eq (g2 := F0 m 8 ls [.long (getS pf pk i)]) rfl ?_
  exact W.lret hx hb hr (fun t9 ht hW => ⟨_, rfl, rfl, ht⟩) (fun q h => by cases h) d_X_proof_8 hlk
theorem k_X_mirrorOf_1 : kS "RegistryLog" 199 y_X_isMirror b_X_isMirror 1 (some .boolean) 1 := ⟨(in_3 (List.mem_of_getElem? (i := 156) rfl) rfl), (in_3 (List.mem_of_getElem? (i := 157) rfl) rfl), (in_1 (List.mem_of_getElem? (i := 1) rfl) rfl), (in_3 (List.mem_of_getElem? (i := 158) rfl) rfl), ⟨by decide, by decide, by decide +kernel⟩⟩
set_option maxHeartbeats 4000000 in
set_option maxRecDepth 100000 in
/-- mirrorOf(i) -/
theorem c_X_mirrorOf (l : Launch) (g : gG) (H : Heap) (x sb lg ms nm pr hd : Nat) (f0 : ob g H x 0 [.ref sb, .ref lg, .ref ms, .ref nm, .ref pr, .ref hd]) (mf : Nat → Option Nat) (f1 : ar g 3 H ms (4, .inr (.inr (.inr (.inr mf))))) (mir : Nat → List Rw) (hm : ∀ j, j < 4 → ∃ q, mf j = some q ∧ isL g H q (mir j)) (i : Int32) : Met l y_X_mirrorOf (wC y_X_mirrorOf b_X_mirrorOf 2 (some (.object "RegistryLog$Ledger"))) (rmk 1 0 0 20) (pC g H [.ref x, .int i]) (qP H (fun v => ∃ q, v = some (.ref q) ∧ mirA mf nm i = some q)) 0 0 no_ := by
  refine mB (by decide) (Nat.le_of_ble_eq_true rfl) ?_
  intro p e s m below meth c ls C0 hH hZ hnm hl
  have C0 : cF g p s m _ meth c b_X_mirrorOf 2 "RegistryLog" (some (.object "RegistryLog$Ledger")) := C0
  obtain ⟨hx, hb, hml, hown, hts, hr, hlk, hK⟩ := id C0
  subst hH
  have hl : lv_has ls 2 [(0, .ref x), (1, .int i)] := hl
  refine lv_iload_n hx hb d_X_mirrorOf_0 rfl (lv_at hl 1 rfl) ?_
  refine aP (rS (As := [.int i]) (rest := []) C0 (c_X_isMirror l g s.heap i) hZ k_X_mirrorOf_1 rfl rfl ⟨Nat.le_of_ble_eq_true rfl, Nat.le_of_ble_eq_true rfl⟩ rfl hl.1 rfl (Nat.le_of_ble_eq_true rfl) d_X_mirrorOf_1 ⟨Nat.zero_le _, Nat.zero_le _⟩) ?_
  intro v hv; subst hv
  refine W.eq (g2 := F0 m 4 ls [.int (bI (decide (0 ≤ i ∧ i < 4)))]) rfl ?_
  refine lv_if_eq (tgt := 16) hx hb d_X_mirrorOf_4 (by decide) (fun c4 => ?_) (fun c4 => ?_)
  · skip
    refine lv_aload_n hx hb d_X_mirrorOf_16 rfl (lv_at hl 0 rfl) ?_
    refine va_get (D := g.1) (ci := 0) (C := R_X) (T := F_X) (N := 6) hx hb hts i_X hown hK.1 f0 0 rfl rfl 3 (by decide) (hts (.fieldLink "RegistryLog" 27 "RegistryLog" "noMirror" "LRegistryLog$Ledger;") (in_3 (List.mem_of_getElem? (i := 12) rfl) rfl)) (fun _ h9 => h9) rfl d_X_mirrorOf_17 ?_
    exact W.aret hx hb hr (Or.inl ⟨_, rfl⟩) (Or.inr ⟨_, rfl⟩) (fun t9 ht hW => ⟨_, rfl, ⟨nm, rfl, by rw [mirA, if_neg (of_decide_eq_false (bI_z.mp c4))]⟩, ht⟩) (fun q h => by cases h) d_X_mirrorOf_20 hlk
  · skip
    refine lv_aload_n hx hb d_X_mirrorOf_7 rfl (lv_at hl 0 rfl) ?_
    refine va_get (D := g.1) (ci := 0) (C := R_X) (T := F_X) (N := 6) hx hb hts i_X hown hK.1 f0 0 rfl rfl 2 (by decide) (hts (.fieldLink "RegistryLog" 23 "RegistryLog" "mirrors" "[LRegistryLog$Ledger;") (in_3 (List.mem_of_getElem? (i := 11) rfl) rfl)) (fun _ h9 => h9) rfl d_X_mirrorOf_8 ?_
    refine lv_iload_n hx hb d_X_mirrorOf_11 rfl (lv_at hl 1 rfl) ?_
    have hin : 0 ≤ i ∧ i < 4 := of_decide_eq_true (bI_n.mp c4)
    obtain ⟨j, h1, h2⟩ := nI_of (Int32.not_lt.mpr hin.1)
    have h3 : j < 4 := (nI_ltI h1 (by decide)).mp (by rw [← h2]; exact hin.2)
    obtain ⟨q, eq, hq⟩ := hm j h3
    refine va_aldq (D := g.1) hx hb hK.1 f1 0 3 rfl rfl (by rw [h2]; exact vp_in_nI h3 (by omega)) d_X_mirrorOf_12 ?_
    rw [show mf i.toNatClampNeg = some q from by rw [h2, nI_clamp h1]; exact eq]
    refine W.eq (g2 := F0 m 13 ls [.ref q]) rfl ?_
    refine lv_goto (tgt := 20) hx hb d_X_mirrorOf_13 (by decide) ?_
    exact W.aret hx hb hr (Or.inl ⟨_, rfl⟩) (Or.inr ⟨_, rfl⟩) (fun t9 ht hW => ⟨_, rfl, ⟨q, rfl, by rw [mirA, if_pos hin, h2, nI_clamp h1]; exact eq⟩, ht⟩) (fun q h => by cases h) d_X_mirrorOf_20 hlk
theorem k_X_ledgerOf_14 : kV "RegistryLog" 202 "RegistryLog" y_X_mirrorOf b_X_mirrorOf 2 (some (.object "RegistryLog$Ledger")) 1 := ⟨(in_3 (List.mem_of_getElem? (i := 159) rfl) rfl), (in_3 (List.mem_of_getElem? (i := 161) rfl) rfl), (in_0 (List.mem_of_getElem? (i := 1) rfl) rfl), (in_1 (List.mem_of_getElem? (i := 1) rfl) rfl), (in_3 (List.mem_of_getElem? (i := 162) rfl) rfl), ⟨by decide, by decide, by decide +kernel⟩⟩
set_option maxHeartbeats 4000000 in
set_option maxRecDepth 100000 in
/-- ledgerOf(i) -/
theorem c_X_ledgerOf (l : Launch) (g : gG) (H : Heap) (x sb lg ms nm pr hd : Nat) (f0 : ob g H x 0 [.ref sb, .ref lg, .ref ms, .ref nm, .ref pr, .ref hd]) (mf : Nat → Option Nat) (f1 : ar g 3 H ms (4, .inr (.inr (.inr (.inr mf))))) (mir : Nat → List Rw) (hm : ∀ j, j < 4 → ∃ q, mf j = some q ∧ isL g H q (mir j)) (i : Int32) : Met l y_X_ledgerOf (wC y_X_ledgerOf b_X_ledgerOf 2 (some (.object "RegistryLog$Ledger"))) (rmk 2 0 0 41) (pC g H [.ref x, .int i]) (qP H (fun v => ∃ q, v = some (.ref q) ∧ (if i = -1 then some lg else mirA mf nm i) = some q)) 0 0 no_ := by
  refine mB (by decide) (Nat.le_of_ble_eq_true rfl) ?_
  intro p e s m below meth c ls C0 hH hZ hnm hl
  have C0 : cF g p s m _ meth c b_X_ledgerOf 2 "RegistryLog" (some (.object "RegistryLog$Ledger")) := C0
  obtain ⟨hx, hb, hml, hown, hts, hr, hlk, hK⟩ := id C0
  subst hH
  have hl : lv_has ls 2 [(0, .ref x), (1, .int i)] := hl
  refine lv_iload_n hx hb d_X_ledgerOf_0 rfl (lv_at hl 1 rfl) ?_
  refine lv_iconst (v := (-1)) hx hb d_X_ledgerOf_1 (by decide) ?_
  refine lv_icmp_ne (tgt := 12) hx hb d_X_ledgerOf_2 (by decide) (fun c2 => ?_) (fun c2 => ?_)
  · skip
    refine lv_aload_n hx hb d_X_ledgerOf_12 rfl (lv_at hl 0 rfl) ?_
    refine lv_iload_n hx hb d_X_ledgerOf_13 rfl (lv_at hl 1 rfl) ?_
    refine aP (rV (As := [.int i]) (rest := []) C0 (c_X_mirrorOf l g s.heap x sb lg ms nm pr hd f0 mf f1 mir hm i) hZ k_X_ledgerOf_14 rfl rfl ⟨Nat.le_of_ble_eq_true rfl, Nat.le_of_ble_eq_true rfl⟩ (ob_recv (ci := 0) (q := (R_X, F_X, 6)) hK f0 rfl) rfl hl.1 rfl (Nat.le_of_ble_eq_true rfl) d_X_ledgerOf_14 ⟨Nat.zero_le _, Nat.zero_le _⟩) ?_
    rintro v ⟨q, rfl, hq9⟩
    refine W.eq (g2 := F0 m 17 ls [.ref q]) rfl ?_
    exact W.aret hx hb hr (Or.inl ⟨_, rfl⟩) (Or.inr ⟨_, rfl⟩) (fun t9 ht hW => ⟨_, rfl, ⟨q, rfl, by rw [if_neg c2]; exact hq9⟩, ht⟩) (fun q h => by cases h) d_X_ledgerOf_17 hlk
  · skip
    refine lv_aload_n hx hb d_X_ledgerOf_5 rfl (lv_at hl 0 rfl) ?_
    refine va_get (D := g.1) (ci := 0) (C := R_X) (T := F_X) (N := 6) hx hb hts i_X hown hK.1 f0 0 rfl rfl 1 (by decide) (hts (.fieldLink "RegistryLog" 19 "RegistryLog" "log" "LRegistryLog$Ledger;") (in_3 (List.mem_of_getElem? (i := 10) rfl) rfl)) (fun _ h9 => h9) rfl d_X_ledgerOf_6 ?_
    refine lv_goto (tgt := 17) hx hb d_X_ledgerOf_9 (by decide) ?_
    exact W.aret hx hb hr (Or.inl ⟨_, rfl⟩) (Or.inr ⟨_, rfl⟩) (fun t9 ht hW => ⟨_, rfl, ⟨lg, rfl, by rw [if_pos c2]⟩, ht⟩) (fun q h => by cases h) d_X_ledgerOf_17 hlk
theorem k_X_mirrored_2 : kV "RegistryLog" 202 "RegistryLog" y_X_mirrorOf b_X_mirrorOf 2 (some (.object "RegistryLog$Ledger")) 1 := ⟨(in_3 (List.mem_of_getElem? (i := 159) rfl) rfl), (in_3 (List.mem_of_getElem? (i := 161) rfl) rfl), (in_0 (List.mem_of_getElem? (i := 1) rfl) rfl), (in_1 (List.mem_of_getElem? (i := 1) rfl) rfl), (in_3 (List.mem_of_getElem? (i := 162) rfl) rfl), ⟨by decide, by decide, by decide +kernel⟩⟩
theorem k_X_mirrored_9 : kV "RegistryLog" 80 "RegistryLog$Ledger" y_L_size b_L_size 1 (some .int) 0 := ⟨(in_3 (List.mem_of_getElem? (i := 38) rfl) rfl), (in_3 (List.mem_of_getElem? (i := 39) rfl) rfl), (in_3 (List.mem_of_getElem? (i := 40) rfl) rfl), (in_1 (List.mem_of_getElem? (i := 6) rfl) rfl), (in_3 (List.mem_of_getElem? (i := 41) rfl) rfl), ⟨by decide, by decide, by decide +kernel⟩⟩
theorem k_X_mirrored_12 : kN "RegistryLog" 154 y_T_headOf "RegistryLog" b_T_headOf 4 (some .long) 3 := ⟨List.mem_of_getElem? (i := 0) rfl, (in_3 (List.mem_of_getElem? (i := 59) rfl) rfl), (in_1 (List.mem_of_getElem? (i := 20) rfl) rfl), (in_3 (List.mem_of_getElem? (i := 60) rfl) rfl), ⟨by decide, by decide, by decide +kernel⟩⟩
set_option maxHeartbeats 4000000 in
set_option maxRecDepth 100000 in
/-- mirrored(i) -/
theorem c_X_mirrored (l : Launch) (g : gG) (H : Heap) (x sb lg ms nm pr hd : Nat) (f0 : ob g H x 0 [.ref sb, .ref lg, .ref ms, .ref nm, .ref pr, .ref hd]) (mf : Nat → Option Nat) (f1 : ar g 3 H ms (4, .inr (.inr (.inr (.inr mf))))) (mir : Nat → List Rw) (hm : ∀ j, j < 4 → ∃ q, mf j = some q ∧ isL g H q (mir j)) (hn0 : isL g H nm []) (i : Int32) : Met l y_X_mirrored (wC y_X_mirrored b_X_mirrored 3 (some .long)) (rmk 10 0 0 232) (pC g H [.ref x, .int i]) (qP H (fun v => v = some (.long (headS (mirS mir i) (nI (mirS mir i).length))))) 0 0 no_ := by
  refine mB (by decide) (Nat.le_of_ble_eq_true rfl) ?_
  intro p e s m below meth c ls C0 hH hZ hnm hl
  have C0 : cF g p s m _ meth c b_X_mirrored 3 "RegistryLog" (some .long) := C0
  obtain ⟨hx, hb, hml, hown, hts, hr, hlk, hK⟩ := id C0
  subst hH
  have hl : lv_has ls 3 [(0, .ref x), (1, .int i)] := hl
  refine lv_aload_n hx hb d_X_mirrored_0 rfl (lv_at hl 0 rfl) ?_
  refine lv_iload_n hx hb d_X_mirrored_1 rfl (lv_at hl 1 rfl) ?_
  refine aP (rV (As := [.int i]) (rest := []) C0 (c_X_mirrorOf l g s.heap x sb lg ms nm pr hd f0 mf f1 mir hm i) hZ k_X_mirrored_2 rfl rfl ⟨Nat.le_of_ble_eq_true rfl, Nat.le_of_ble_eq_true rfl⟩ (ob_recv (ci := 0) (q := (R_X, F_X, 6)) hK f0 rfl) rfl hl.1 rfl (Nat.le_of_ble_eq_true rfl) d_X_mirrored_2 ⟨Nat.zero_le _, Nat.zero_le _⟩) ?_
  rintro v ⟨q, rfl, hq9⟩
  refine W.eq (g2 := F0 m 5 ls [.ref q]) rfl ?_
  refine lv_astore_n (lv' := [(2, .ref q), (0, .ref x), (1, .int i)]) hx hb d_X_mirrored_5 rfl hl (by decide) rfl (fun ls hl => ?_)
  obtain ⟨q2, e2, h⟩ := mirA_ok hm hn0 i
  have e3 : q = q2 := Option.some.inj (hq9.symm.trans e2)
  subst e3
  refine lv_aload_n hx hb d_X_mirrored_6 rfl (lv_at hl 0 rfl) ?_
  refine lv_iconst (v := 0) hx hb d_X_mirrored_7 (by decide) ?_
  refine lv_aload_n hx hb d_X_mirrored_8 rfl (lv_at hl 0 rfl) ?_
  refine aP (rV (As := []) (rest := [.int 0, .ref q]) C0 (isL_size h) hZ k_X_mirrored_9 rfl rfl ⟨Nat.le_of_ble_eq_true rfl, Nat.le_of_ble_eq_true rfl⟩ (isL_recv hK h) rfl hl.1 rfl (Nat.le_of_ble_eq_true rfl) d_X_mirrored_9 ⟨Nat.zero_le _, Nat.zero_le _⟩) ?_
  intro v hv; subst hv
  refine W.eq (g2 := F0 m 12 ls [.int (nI (mirS mir i).length), .int 0, .ref q]) rfl ?_
  refine aP (rN (As := [.ref q, .int 0, .int (nI (mirS mir i).length)]) (rest := []) C0 (m_head h (Int32.le_refl _)) hZ k_X_mirrored_12 rfl rfl ⟨Nat.le_of_ble_eq_true rfl, Nat.le_of_ble_eq_true rfl⟩ rfl hl.1 rfl (Nat.le_of_ble_eq_true rfl) d_X_mirrored_12 ⟨Nat.zero_le _, Nat.zero_le _⟩) ?_
  intro v hv; subst hv
  refine W.eq (g2 := F0 m 15 ls [.long (headS (mirS mir i) (nI (mirS mir i).length))]) rfl ?_
  exact W.lret hx hb hr (fun t9 ht hW => ⟨_, rfl, rfl, ht⟩) (fun q h => by cases h) d_X_mirrored_15 hlk
def apF (d1 d2 : Nat → Int64) : Nat → Nat → Int32
  | 0, _ => -1
  | k + 1, i => if d1 i = d2 i then apF d1 d2 k (i + 1) else nI (i + 1)
theorem lg_z {a b : Int64} : lg_cmp a b = 0 ↔ a = b := lg_cmp_eq a b
theorem k_X_apart_2 : kV "RegistryLog" 202 "RegistryLog" y_X_mirrorOf b_X_mirrorOf 2 (some (.object "RegistryLog$Ledger")) 1 := ⟨(in_3 (List.mem_of_getElem? (i := 159) rfl) rfl), (in_3 (List.mem_of_getElem? (i := 161) rfl) rfl), (in_0 (List.mem_of_getElem? (i := 1) rfl) rfl), (in_1 (List.mem_of_getElem? (i := 1) rfl) rfl), (in_3 (List.mem_of_getElem? (i := 162) rfl) rfl), ⟨by decide, by decide, by decide +kernel⟩⟩
theorem k_X_apart_10 : kV "RegistryLog" 80 "RegistryLog$Ledger" y_L_size b_L_size 1 (some .int) 0 := ⟨(in_3 (List.mem_of_getElem? (i := 38) rfl) rfl), (in_3 (List.mem_of_getElem? (i := 39) rfl) rfl), (in_3 (List.mem_of_getElem? (i := 40) rfl) rfl), (in_1 (List.mem_of_getElem? (i := 6) rfl) rfl), (in_3 (List.mem_of_getElem? (i := 41) rfl) rfl), ⟨by decide, by decide, by decide +kernel⟩⟩
theorem k_X_apart_18 : kV "RegistryLog" 133 "RegistryLog$Ledger" y_L_at b_L_at 2 (some (.object "RegistryLog$Row")) 1 := ⟨(in_3 (List.mem_of_getElem? (i := 46) rfl) rfl), (in_3 (List.mem_of_getElem? (i := 47) rfl) rfl), (in_3 (List.mem_of_getElem? (i := 48) rfl) rfl), (in_1 (List.mem_of_getElem? (i := 6) rfl) rfl), (in_3 (List.mem_of_getElem? (i := 49) rfl) rfl), ⟨by decide, by decide, by decide +kernel⟩⟩
theorem k_X_apart_29 : kV "RegistryLog" 133 "RegistryLog$Ledger" y_L_at b_L_at 2 (some (.object "RegistryLog$Row")) 1 := ⟨(in_3 (List.mem_of_getElem? (i := 46) rfl) rfl), (in_3 (List.mem_of_getElem? (i := 47) rfl) rfl), (in_3 (List.mem_of_getElem? (i := 48) rfl) rfl), (in_1 (List.mem_of_getElem? (i := 6) rfl) rfl), (in_3 (List.mem_of_getElem? (i := 49) rfl) rfl), ⟨by decide, by decide, by decide +kernel⟩⟩
theorem isL_len {g : gG} {H : Heap} {a : Nat} {rows : List Rw} (h : isL g H a rows) : rows.length ≤ 120 := by
  obtain ⟨w, n, f, f0, f1, hn9, hlen, hrs⟩ := h
  exact hlen
set_option maxHeartbeats 4000000 in
set_option maxRecDepth 100000 in
theorem lp_X_apart {p : Program} {l : Launch} {e : Env} {s : State} {m : MethodId} {args : Array Value} {below : List Frame} {meth : Method} {c : Code} {g : gG} (C0 : cF g p s m args meth c b_X_apart 4 "RegistryLog" (some .int)) (hZ : zK g s s.heap) (x sb lg ms nm pr hd : Nat) (f0 : ob g s.heap x 0 [.ref sb, .ref lg, .ref ms, .ref nm, .ref pr, .ref hd]) (j : Int32) (q : Nat) (mr rows : List Rw) (hq : isL g s.heap q mr) (h : isL g s.heap lg rows) (hm120 : mr.length ≤ 120) (res : Int32) :
    ∀ (n i : Nat), i ≤ mr.length → mr.length + 1 ≤ i + n → apF (dS mr) (dS rows) (mr.length - i) i = res → ∀ (ls : Array Slot), lv_has ls 4 [(0, .ref x), (1, .int j), (2, .ref q), (3, .int (nI i))] → W p l e (rmk 2 0 0 41) s m args below meth c s.heap [] 0 0 (MQ below (qP s.heap (fun v => v = some (.int res))) args s 0 0 no_) (F0 m 8 ls []) := by
  obtain ⟨hx, hb, hml, hown, hts, hr, hlk, hK⟩ := id C0
  intro n
  induction n with
  | zero => intro i h1 h2; exact absurd h2 (by omega)
  | succ n ih =>
    intro i hi hin hres ls hl
    refine lv_iload_n hx hb d_X_apart_8 rfl (lv_at hl 3 rfl) ?_
    refine lv_aload_n hx hb d_X_apart_9 rfl (lv_at hl 2 rfl) ?_
    refine aP (rV (As := []) (rest := [.int (nI i)]) C0 (isL_size hq) hZ k_X_apart_10 rfl rfl ⟨Nat.le_of_ble_eq_true rfl, Nat.le_of_ble_eq_true rfl⟩ (isL_recv hK hq) rfl hl.1 rfl (Nat.le_of_ble_eq_true rfl) d_X_apart_10 ⟨Nat.zero_le _, Nat.zero_le _⟩) ?_
    intro v hv; subst hv
    refine W.eq (g2 := F0 m 13 ls [.int (nI mr.length), .int (nI i)]) rfl ?_
    refine lv_icmp_ge (tgt := 49) hx hb d_X_apart_13 (by decide) (fun c13 => ?_) (fun c13 => ?_)
    · skip
      refine lv_iconst (v := (-1)) hx hb d_X_apart_49 (by decide) ?_
      rw [show mr.length - i = 0 by have := (nI_leI (by omega) (by omega)).mp c13; omega] at hres
      exact W.iret hx hb hr (fun t9 ht hW => ⟨_, rfl, by rw [← hres]; rfl, ht⟩) (fun q h => by cases h) d_X_apart_50 hlk
    · skip
      have hlt : i < mr.length := by rcases Nat.lt_or_ge i mr.length with q | q; exact q; exact absurd (nI_le q (by omega)) c13
      refine lv_aload_n hx hb d_X_apart_16 rfl (lv_at hl 2 rfl) ?_
      refine lv_iload_n hx hb d_X_apart_17 rfl (lv_at hl 3 rfl) ?_
      refine aP (rV (As := [.int (nI i)]) (rest := []) C0 (c_L_at l g s.heap q mr (nI i) hq) hZ k_X_apart_18 rfl rfl ⟨Nat.le_of_ble_eq_true rfl, Nat.le_of_ble_eq_true rfl⟩ (isL_recv hK hq) rfl hl.1 rfl (Nat.le_of_ble_eq_true rfl) d_X_apart_18 ⟨Nat.zero_le _, Nat.zero_le _⟩) ?_
      rintro v ⟨ra1, rfl, ra19⟩
      rw [atS_nat (by omega) (isL_len hq)] at ra19
      obtain ⟨R1, eR1⟩ : ∃ R9, R9 = mr.getD i noRw := ⟨_, rfl⟩
      rw [← eR1] at ra19
      refine W.eq (g2 := F0 m 21 ls [.ref ra1]) rfl ?_
      obtain ⟨na, nb, ra190, ra19n, ra19a⟩ := ra19
      refine va_get (D := g.1) (ci := 4) (C := R_R) (T := F_R) (N := 8) hx hb hts i_R hown hK.1 ra190 0 rfl rfl 7 (by decide) (hts (.fieldLink "RegistryLog" 150 "RegistryLog$Row" "digest" "J") (in_2 (List.mem_of_getElem? (i := 202) rfl) rfl)) (fun _ h9 => h9) rfl d_X_apart_21 ?_
      refine lv_aload_n hx hb d_X_apart_24 rfl (lv_at hl 0 rfl) ?_
      refine va_get (D := g.1) (ci := 0) (C := R_X) (T := F_X) (N := 6) hx hb hts i_X hown hK.1 f0 0 rfl rfl 1 (by decide) (hts (.fieldLink "RegistryLog" 19 "RegistryLog" "log" "LRegistryLog$Ledger;") (in_3 (List.mem_of_getElem? (i := 10) rfl) rfl)) (fun _ h9 => h9) rfl d_X_apart_25 ?_
      refine lv_iload_n hx hb d_X_apart_28 rfl (lv_at hl 3 rfl) ?_
      refine aP (rV (As := [.int (nI i)]) (rest := [.long (digS R1)]) C0 (c_L_at l g s.heap lg rows (nI i) h) hZ k_X_apart_29 rfl rfl ⟨Nat.le_of_ble_eq_true rfl, Nat.le_of_ble_eq_true rfl⟩ (isL_recv hK h) rfl hl.1 rfl (Nat.le_of_ble_eq_true rfl) d_X_apart_29 ⟨Nat.zero_le _, Nat.zero_le _⟩) ?_
      rintro v ⟨rb1, rfl, rb19⟩
      rw [atS_nat (by omega) (isL_len h)] at rb19
      obtain ⟨R2, eR2⟩ : ∃ R9, R9 = rows.getD i noRw := ⟨_, rfl⟩
      rw [← eR2] at rb19
      refine W.eq (g2 := F0 m 32 ls [.ref rb1, .long (digS R1)]) rfl ?_
      obtain ⟨na, nb, rb190, rb19n, rb19a⟩ := rb19
      refine va_get (D := g.1) (ci := 4) (C := R_R) (T := F_R) (N := 8) hx hb hts i_R hown hK.1 rb190 0 rfl rfl 7 (by decide) (hts (.fieldLink "RegistryLog" 150 "RegistryLog$Row" "digest" "J") (in_2 (List.mem_of_getElem? (i := 202) rfl) rfl)) (fun _ h9 => h9) rfl d_X_apart_32 ?_
      refine W.lcmp hx hb d_X_apart_35 ?_
      refine lv_if_eq (tgt := 43) hx hb d_X_apart_36 (by decide) (fun c36 => ?_) (fun c36 => ?_)
      · skip
        obtain ⟨x_1, ex_1⟩ : ∃ y : Int32, y = (nI i) + 1 := ⟨_, rfl⟩
        refine lv_iinc (v := x_1) (lv' := [(3, .int x_1), (0, .ref x), (1, .int j), (2, .ref q)]) hx hb d_X_apart_43 hl (k := 3) rfl (by rw [ex_1]; rfl) (by decide) rfl (fun ls hl => ?_)
        refine lv_goto (tgt := 8) hx hb d_X_apart_46 (by decide) ?_
        rw [ex_1, nI_1] at hl
        rw [show mr.length - i = (mr.length - (i + 1)) + 1 by omega, apF, if_pos (by rw [dS, dS, ← eR1, ← eR2]; exact lg_z.mp c36)] at hres
        exact ih (i + 1) hlt (by omega) hres ls (lv_sub hl [1, 2, 3, 0] rfl)
      · skip
        refine lv_iload_n hx hb d_X_apart_39 rfl (lv_at hl 3 rfl) ?_
        refine lv_iconst (v := 1) hx hb d_X_apart_40 (by decide) ?_
        refine lv_iadd hx hb d_X_apart_41 ?_
        rw [show mr.length - i = (mr.length - (i + 1)) + 1 by omega, apF, if_neg (by rw [dS, dS, ← eR1, ← eR2]; exact fun z => c36 (lg_z.mpr z))] at hres
        exact W.iret hx hb hr (fun t9 ht hW => ⟨_, rfl, by rw [← hres, nI_1], ht⟩) (fun q h => by cases h) d_X_apart_42 hlk
set_option maxHeartbeats 4000000 in
set_option maxRecDepth 100000 in
/-- apart(i) -/
theorem c_X_apart (l : Launch) (g : gG) (H : Heap) (x sb lg ms nm pr hd : Nat) (f0 : ob g H x 0 [.ref sb, .ref lg, .ref ms, .ref nm, .ref pr, .ref hd]) (mf : Nat → Option Nat) (f1 : ar g 3 H ms (4, .inr (.inr (.inr (.inr mf))))) (mir : Nat → List Rw) (hm : ∀ j, j < 4 → ∃ q, mf j = some q ∧ isL g H q (mir j)) (hn0 : isL g H nm []) (rows : List Rw) (h : isL g H lg rows) (i : Int32) : Met l y_X_apart (wC y_X_apart b_X_apart 4 (some .int)) (rmk 2 0 0 41) (pC g H [.ref x, .int i]) (qP H (fun v => v = some (.int (apF (dS (mirS mir i)) (dS rows) (mirS mir i).length 0)))) 0 0 no_ := by
  refine mB (by decide) (Nat.le_of_ble_eq_true rfl) ?_
  intro p e s m below meth c ls C0 hH hZ hnm hl
  have C0 : cF g p s m _ meth c b_X_apart 4 "RegistryLog" (some .int) := C0
  obtain ⟨hx, hb, hml, hown, hts, hr, hlk, hK⟩ := id C0
  subst hH
  have hl : lv_has ls 4 [(0, .ref x), (1, .int i)] := hl
  refine lv_aload_n hx hb d_X_apart_0 rfl (lv_at hl 0 rfl) ?_
  refine lv_iload_n hx hb d_X_apart_1 rfl (lv_at hl 1 rfl) ?_
  refine aP (rV (As := [.int i]) (rest := []) C0 (c_X_mirrorOf l g s.heap x sb lg ms nm pr hd f0 mf f1 mir hm i) hZ k_X_apart_2 rfl rfl ⟨Nat.le_of_ble_eq_true rfl, Nat.le_of_ble_eq_true rfl⟩ (ob_recv (ci := 0) (q := (R_X, F_X, 6)) hK f0 rfl) rfl hl.1 rfl (Nat.le_of_ble_eq_true rfl) d_X_apart_2 ⟨Nat.zero_le _, Nat.zero_le _⟩) ?_
  rintro v ⟨q, rfl, hq9⟩
  refine W.eq (g2 := F0 m 5 ls [.ref q]) rfl ?_
  refine lv_astore_n (lv' := [(2, .ref q), (0, .ref x), (1, .int i)]) hx hb d_X_apart_5 rfl hl (by decide) rfl (fun ls hl => ?_)
  refine lv_iconst (v := 0) hx hb d_X_apart_6 (by decide) ?_
  refine lv_istore_n (lv' := [(3, .int 0), (2, .ref q), (0, .ref x), (1, .int i)]) hx hb d_X_apart_7 rfl hl (by decide) rfl (fun ls hl => ?_)
  obtain ⟨q2, e2, hq⟩ := mirA_ok hm hn0 i
  have e3 : q = q2 := Option.some.inj (hq9.symm.trans e2)
  subst e3
  exact lp_X_apart C0 hZ x sb lg ms nm pr hd f0 i q _ rows hq h (isL_len hq) _ ((mirS mir i).length + 1) 0 (Nat.zero_le _) (by omega) rfl ls (lv_sub hl [2, 3, 1, 0] rfl)
end
section
/-! THE REFERENCE'S CELLS: one object, its arrays; what it holds as functions: F its numbers, A its int (and boolean) arrays, B its long arrays, by the fields' places -/
section HW
variable {p : Program} {l : Launch} {e : Env} {R : Room} {s : State} {m : MethodId} {args : Array Value} {below : List Frame} {meth : Method} {c : Code} {H : Heap} {locs : List Loc} {cells slots : Nat} {Q : State → Prop}
variable {cc : ByteArray} {pc : Nat} {ls : Array Slot} {rest : List Value} {g : gG} {a : Nat}
/-- putfield, with all that stays said -/
theorem h_put (hexec : p.tables.exec = Jvm.exec) (hb : c.code = cc) {own ref C : String} {T : u_T} {N ci index : Nat} (hts : ∀ w ∈ gT, w.before args s = true) (hin : ∀ w ∈ u_ws C T N, w ∈ gT) (ty0 : Nat → FieldType) (hty : ∀ k, k < N → parseFieldDescriptor (T k).2.2.1 = some (ty0 k)) (hnm : ∀ a, a < N → ∀ b, b < N → a ≠ b → (T a).2.1 ≠ (T b).2.1) (hown : s.vm.findClass own = some m.cls) (hK : kK g s) {fs : List Value} (f0 : ob g H a ci fs) (hc : cls_[ci]? = some (C, T, N)) (k : Nat) (hk : k < N) (hlink : (Cond.fieldLink own index ref (T k).2.1 (T k).2.2.1).before args s = true) (hsame : ∀ x, s.fieldFound? (T k).1 (T k).2.1 (T k).2.2.1 = some x → s.fieldFound? ref (T k).2.1 (T k).2.2.1 = some x) (hfin : (T k).2.2.2 = false) {ty : FieldType} {v : Value} (hd : parseFieldDescriptor (T k).2.2.1 = some ty) (hn : narrow ty v = v) (hfit : fits ty v = true) (hl : k < fs.length)
    (hdg : decode cc pc = .ok (.putfield index, 3)) (kk : ∀ (H1 : Heap) (j : Nat), ob g H1 a ci (fs.set k v) → H1.size = H.size → (∀ q : Nat, q ≠ a → H1[q]? = H[q]?) → W p l e R s m args below meth c H1 (locs ++ [⟨a, j⟩]) cells slots Q (F0 m (pc + 3) ls rest)) : W p l e R s m args below meth c H locs cells slots Q (F0 m pc ls (v :: .ref a :: rest)) := by
  have hap := va_apart (own := own) hts hin ty0 hty hnm hK.1 hc
  obtain ⟨r, h1, cell, q1, q2, q3, q4⟩ := f0 0 _ rfl
  have hr : r = (C, T, N) := Option.some.inj (h1.symm.trans hc)
  subst hr
  obtain ⟨hS, hfc, kC, hkC, hkind⟩ := hK.1.1 ci _ hc
  obtain ⟨cf, kf, fi, f, hi, hsl⟩ := hS k hk
  have hlay := hts _ (hin _ (u_in_lay hk))
  unfold u_lay at hlay
  rw [if_neg (by rw [hfin]; decide)] at hlay
  have hst := (u_facts hfc hkC (u_lays hts hin hk) hi).1
  have h6 := u_store hfc hkC hkind hlay hi hd hn hfit
  refine W.putK hexec hb (f := f) ⟨hown, hlink, ⟨_, _, _, hsame _ hi⟩, hst⟩ (by rw [q2]; exact h6) q1 q3 (by rw [hsl]; exact k2_hasslot (q4 k hk)) rfl rfl hdg fun H' e1 e2 e3 => ?_
  rw [hsl] at e1
  refine kk H' f.slot (fun i q hq => ?_) e2 e3
  have hz : i = 0 := by have := (List.getElem?_eq_some_iff.mp hq).1; simp at this; omega
  subst hz
  cases hq
  exact ⟨_, hc, t_OB.to (V := updV (vp_V fs) k v) ⟨_, e1, q2, q3, t_set q4 hap hk v⟩ (fun j _ => vp_updV_set hl v j)⟩
theorem ar_eq {t : Nat} {x : vp_A} (h : ar g t H a x) : H[a]? = some (vp_cell (g.2.1 t) x) := h 0 _ rfl
theorem ar_of {t : Nat} {x : vp_A} (h : H[a]? = some (vp_cell (g.2.1 t) x)) : ar g t H a x := fun i q hq => by
  have hz : i = 0 := by have := (List.getElem?_eq_some_iff.mp hq).1; simp at this; omega
  subst hz
  cases hq
  exact h
theorem h_iast (hexec : p.tables.exec = Jvm.exec) (hb : c.code = cc) (hK : kK g s) {n : Nat} {f : Nat → Int32} (h : ar g 4 H a (n, .inl f)) {i : Int32} {x : Int32} (k : Nat) (hi : i = nI k) (hk : k < n) (hn : n < 2 ^ 31) (hdg : decode cc pc = .ok (.iastore, 1))
    (kk : ∀ (H1 : Heap) (j : Nat), ar g 4 H1 a (n, .inl (upd f k x)) → H1.size = H.size → (∀ q : Nat, q ≠ a → H1[q]? = H[q]?) → W p l e R s m args below meth c H1 (locs ++ [⟨a, j⟩]) cells slots Q (F0 m (pc + 1) ls rest)) : W p l e R s m args below meth c H locs cells slots Q (F0 m pc ls (.int x :: .int i :: .ref a :: rest)) := by
  subst hi
  have hc : (nI k).toNatClampNeg = k := nI_clamp (by omega)
  refine W.iast hexec hb (ar_eq h) ((hK.1.2 4 _ rfl).1 n (fun j => .int (f j))) (fun q => by cases q) (by show ¬ (nI k < 0 ∨ (arrV _ _ _).slots.size ≤ _); rw [arrV_size]; exact nI_in hk hn) rfl rfl hdg fun H1 e z oq => ?_
  refine kk H1 _ (ar_of ?_) z oq
  rw [e, hc, vp_cell_i, vp_cell_i, arrV_store]
  congr 2
  funext q
  by_cases hq : q = k
  · subst hq; simp [updV, upd]
  · simp [updV, upd, hq]
theorem h_zast (hexec : p.tables.exec = Jvm.exec) (hb : c.code = cc) (hK : kK g s) {n : Nat} {f : Nat → Int32} (h : ar g 5 H a (n, .inl f)) {i : Int32} {b : Bool} (k : Nat) (hi : i = nI k) (hk : k < n) (hn : n < 2 ^ 31) (hdg : decode cc pc = .ok (.bastore, 1))
    (kk : ∀ (H1 : Heap) (j : Nat), ar g 5 H1 a (n, .inl (upd f k (bI b))) → H1.size = H.size → (∀ q : Nat, q ≠ a → H1[q]? = H[q]?) → W p l e R s m args below meth c H1 (locs ++ [⟨a, j⟩]) cells slots Q (F0 m (pc + 1) ls rest)) : W p l e R s m args below meth c H locs cells slots Q (F0 m pc ls (.int (bI b) :: .int i :: .ref a :: rest)) := by
  subst hi
  have hc : (nI k).toNatClampNeg = k := nI_clamp (by omega)
  refine W.zast hexec hb (ar_eq h) ((hK.1.2 5 _ rfl).1 n (fun j => .int (f j))) (fun q => by cases q) (by show ¬ (nI k < 0 ∨ (arrV _ _ _).slots.size ≤ _); rw [arrV_size]; exact nI_in hk hn) rfl rfl hdg fun H1 e z oq => ?_
  refine kk H1 _ (ar_of ?_) z oq
  rw [e, hc, vp_cell_i, vp_cell_i, arrV_store]
  congr 2
  funext q
  by_cases hq : q = k
  · subst hq; cases b <;> simp [updV, upd, bI] <;> rfl
  · simp [updV, upd, hq]
theorem h_last (hexec : p.tables.exec = Jvm.exec) (hb : c.code = cc) (hK : kK g s) {n : Nat} {f : Nat → Int64} (h : ar g 1 H a (n, .inr (.inl f))) {i : Int32} {x : Int64} (k : Nat) (hi : i = nI k) (hk : k < n) (hn : n < 2 ^ 31) (hdg : decode cc pc = .ok (.lastore, 1))
    (kk : ∀ (H1 : Heap) (j : Nat), ar g 1 H1 a (n, .inr (.inl (vp_updL f k x))) → H1.size = H.size → (∀ q : Nat, q ≠ a → H1[q]? = H[q]?) → W p l e R s m args below meth c H1 (locs ++ [⟨a, j⟩]) cells slots Q (F0 m (pc + 1) ls rest)) : W p l e R s m args below meth c H locs cells slots Q (F0 m pc ls (.long x :: .int i :: .ref a :: rest)) := by
  subst hi
  have hc : (nI k).toNatClampNeg = k := nI_clamp (by omega)
  refine W.last hexec hb (ar_eq h) ((hK.1.2 1 _ rfl).1 n (fun j => .long (f j))) (fun q => by cases q) (by show ¬ (nI k < 0 ∨ (arrV _ _ _).slots.size ≤ _); rw [arrV_size]; exact nI_in hk hn) rfl rfl hdg fun H1 e z oq => ?_
  refine kk H1 _ (ar_of ?_) z oq
  rw [e, hc, vp_cell_l, vp_cell_l, arrV_store]
  congr 2
  funext q
  by_cases hq : q = k
  · subst hq; simp [updV, vp_updL]
  · simp [updV, vp_updL, hq]
theorem ob_kept {ci : Nat} {fs : List Value} {H1 : Heap} (h : ob g H a ci fs) (hq : H1[a]? = H[a]?) : ob g H1 a ci fs := va_P.kept h (fun k q hk => by
  have hz : k = 0 := by have := (List.getElem?_eq_some_iff.mp hk).1; simp at this; omega
  subst hz; cases hk; exact hq)
theorem ar_kept {t : Nat} {x : vp_A} {H1 : Heap} (h : ar g t H a x) (hq : H1[a]? = H[a]?) : ar g t H1 a x := ar_of (hq.trans (ar_eq h))
end HW
def mF (ad : Nat → Nat) (F : Nat → Int32) : List Value := [.int (F 0), .ref (ad 1), .int (F 2), .ref (ad 3), .ref (ad 4), .ref (ad 5), .ref (ad 6), .ref (ad 7), .ref (ad 8), .ref (ad 9), .ref (ad 10), .ref (ad 11), .ref (ad 12), .ref (ad 13), .ref (ad 14), .int (F 15), .int (F 16), .ref (ad 17), .ref (ad 18), .ref (ad 19), .ref (ad 20), .ref (ad 21), .ref (ad 22), .ref (ad 23), .ref (ad 24), .ref (ad 25), .ref (ad 26), .int (F 27), .int (F 28), .int (F 29), .ref (ad 30), .ref (ad 31), .int (F 32), .int (F 33), .ref (ad 34), .ref (ad 35), .ref (ad 36), .ref (ad 37), .ref (ad 38), .ref (ad 39), .ref (ad 40), .int (F 41), .int (F 42), .int (F 43), .int (F 44), .int (F 45)]
/-- a field's kind: 0 a number, 1 an int array, 2 a long array, 3 a boolean array -/
def mK (j : Nat) : Nat := ([0, 1, 0, 1, 1, 1, 1, 1, 1, 1, 1, 1, 1, 2, 2, 0, 0, 1, 1, 1, 1, 1, 1, 1, 1, 1, 1, 0, 0, 0, 1, 1, 0, 0, 1, 1, 2, 2, 1, 1, 3, 0, 0, 0, 0, 0] : List Nat).getD j 0
def mLen (j : Nat) : Nat := ([0, 24, 0, 120, 120, 120, 120, 120, 120, 1200, 1200, 600, 5, 16, 16, 0, 0, 2400, 240, 240, 240, 120, 120, 120, 120, 120, 120, 0, 0, 0, 10, 10, 0, 0, 10, 10, 128, 8, 16, 16, 16, 0, 0, 0, 0, 0] : List Nat).getD j 0
def mN (x : Nat) (ad : Nat → Nat) (q : Nat) : Prop := q = x ∨ ∃ j, mK j ≠ 0 ∧ q = ad j
def updA (A : Nat → Nat → Int32) (j : Nat) (f : Nat → Int32) : Nat → Nat → Int32 := fun k => if k = j then f else A k
def updB (B : Nat → Nat → Int64) (j : Nat) (f : Nat → Int64) : Nat → Nat → Int64 := fun k => if k = j then f else B k
def mW (g : gG) (H : Heap) (x : Nat) (ad : Nat → Nat) (F : Nat → Int32) (A : Nat → Nat → Int32) (B : Nat → Nat → Int64) : Prop :=
  ob g H x 8 (mF ad F) ∧ (∀ j, mK j = 1 → ar g 4 H (ad j) (mLen j, .inl (A j))) ∧ (∀ j, mK j = 2 → ar g 1 H (ad j) (mLen j, .inr (.inl (B j)))) ∧ (∀ j, mK j = 3 → ar g 5 H (ad j) (mLen j, .inl (A j))) ∧
  (∀ i j, mK i ≠ 0 → mK j ≠ 0 → ad i = ad j → i = j) ∧ (∀ j, mK j ≠ 0 → x ≠ ad j) ∧ ∀ q, mN x ad q → g.2.2.1 ≤ q
/-- since H0 nothing but the reference's cells has changed, and no cell came -/
def mS (g : gG) (H0 H : Heap) (x : Nat) (ad : Nat → Nat) (F : Nat → Int32) (A : Nat → Nat → Int32) (B : Nat → Nat → Int64) (locs : List Loc) : Prop :=
  mW g H x ad F A B ∧ H.size = H0.size ∧ (∀ q, ¬ mN x ad q → H[q]? = H0[q]?) ∧ ∀ q ∈ locs, mN x ad q.base
theorem mS.rf {g : gG} {H : Heap} {x : Nat} {ad : Nat → Nat} {F : Nat → Int32} {A : Nat → Nat → Int32} {B : Nat → Nat → Int64} (h : mW g H x ad F A B) : mS g H H x ad F A B [] := ⟨h, rfl, fun _ _ => rfl, fun _ h => by cases h⟩
/-- a contract's end, of a method of the reference -/
def qM (g : gG) (H : Heap) (x : Nat) (ad : Nat → Nat) (P : Option Value → (Nat → Int32) → (Nat → Nat → Int32) → (Nat → Nat → Int64) → Prop) : Array Value → State → Outcome → State → Prop := fun _ _ o t => ∃ v F A B, o = .returned v ∧ mS g H t.heap x ad F A B [] ∧ P v F A B
theorem mK_lt {j : Nat} (h : mK j ≠ 0) : j < 46 := by
  rcases Nat.lt_or_ge j 46 with q | q
  · exact q
  · exact absurd (by unfold mK; rw [List.getD_eq_getElem?_getD, List.getElem?_eq_none (by simpa using q)]; rfl) h
theorem mLen_lt (j : Nat) : mLen j < 2 ^ 31 := by
  rcases Nat.lt_or_ge j 46 with q | q
  · revert j; decide +kernel
  · unfold mLen; rw [List.getD_eq_getElem?_getD, List.getElem?_eq_none (by simpa using q)]; decide
section MW
variable {p : Program} {l : Launch} {e : Env} {R : Room} {s : State} {m : MethodId} {args : Array Value} {below : List Frame} {meth : Method} {c : Code} {H H0 : Heap} {locs : List Loc} {cells slots : Nat} {Q : State → Prop}
variable {cc : ByteArray} {pc : Nat} {ls : Array Slot} {rest : List Value} {g : gG} {x : Nat} {ad : Nat → Nat} {F : Nat → Int32} {A : Nat → Nat → Int32} {B : Nat → Nat → Int64}
theorem m_put (hexec : p.tables.exec = Jvm.exec) (hb : c.code = cc) (hts : ∀ w ∈ gT, w.before args s = true) (hown : s.vm.findClass "RegistryLogModel" = some m.cls) (hK : kK g s) (h : mS g H0 H x ad F A B locs) {index : Nat} (k : Nat) (hk : k < 46) (hlink : (Cond.fieldLink "RegistryLogModel" index "RegistryLogModel" (F_M k).2.1 (F_M k).2.2.1).before args s = true) (hr : (F_M k).1 = "RegistryLogModel") (hfin : (F_M k).2.2.2 = false) {ty : FieldType} {v : Int32} (hd : parseFieldDescriptor (F_M k).2.2.1 = some ty) (hn : narrow ty (.int v) = .int v) (hfit : fits ty (.int v) = true) (hset : (mF ad F).set k (.int v) = mF ad (upd F k v))
    (hdg : decode cc pc = .ok (.putfield index, 3)) (kk : ∀ (H1 : Heap) (locs1 : List Loc), mS g H0 H1 x ad (upd F k v) A B locs1 → W p l e R s m args below meth c H1 locs1 cells slots Q (F0 m (pc + 3) ls rest)) : W p l e R s m args below meth c H locs cells slots Q (F0 m pc ls (.int v :: .ref x :: rest)) := by
  obtain ⟨⟨w1, w2, w3, w4, w5, w6, w7⟩, hz, hq, hlo⟩ := h
  refine h_put (ci := 8) (C := R_M) (T := F_M) (N := 46) hexec hb hts i_M t_M t_M_ok n_M hown hK w1 rfl k hk hlink (fun y hy => by rw [← hr]; exact hy) hfin hd hn hfit (by exact hk) hdg (fun H1 j f1 z oq => ?_)
  rw [hset] at f1
  refine kk H1 _ ⟨⟨f1, fun j hj => ar_kept (w2 j hj) (oq _ (fun z => w6 j (by rw [hj]; decide) z.symm)), fun j hj => ar_kept (w3 j hj) (oq _ (fun z => w6 j (by rw [hj]; decide) z.symm)), fun j hj => ar_kept (w4 j hj) (oq _ (fun z => w6 j (by rw [hj]; decide) z.symm)), w5, w6, w7⟩, z.trans hz, fun q h9 => (oq q (fun z => h9 (Or.inl z))).trans (hq q h9), fun q h9 => ?_⟩
  rcases List.mem_append.mp h9 with h8 | h8
  · exact hlo q h8
  · rw [List.mem_singleton.mp h8]; exact Or.inl rfl
theorem m_ld (hexec : p.tables.exec = Jvm.exec) (hb : c.code = cc) (hK : kK g s) (h : mS g H0 H x ad F A B locs) (j : Nat) (hj : mK j = 1) {i : Int32} (k : Nat) (hi : i = nI k) (hk : k < mLen j) (hdg : decode cc pc = .ok (.iaload, 1))
    (kk : W p l e R s m args below meth c H locs cells slots Q (F0 m (pc + 1) ls (.int (A j k) :: rest))) : W p l e R s m args below meth c H locs cells slots Q (F0 m pc ls (.int i :: .ref (ad j) :: rest)) := by
  have hl := mLen_lt j
  refine va_iald (D := g.1) hexec hb hK.1 (h.1.2.1 j hj) 0 4 rfl rfl (by rw [hi]; exact vp_in_nI hk hl) hdg ?_
  rw [hi, nI_clamp (by omega)]
  exact kk
theorem m_ldl (hexec : p.tables.exec = Jvm.exec) (hb : c.code = cc) (hK : kK g s) (h : mS g H0 H x ad F A B locs) (j : Nat) (hj : mK j = 2) {i : Int32} (k : Nat) (hi : i = nI k) (hk : k < mLen j) (hdg : decode cc pc = .ok (.laload, 1))
    (kk : W p l e R s m args below meth c H locs cells slots Q (F0 m (pc + 1) ls (.long (B j k) :: rest))) : W p l e R s m args below meth c H locs cells slots Q (F0 m pc ls (.int i :: .ref (ad j) :: rest)) := by
  have hl := mLen_lt j
  refine va_lald (D := g.1) hexec hb hK.1 (h.1.2.2.1 j hj) 0 1 rfl rfl (by rw [hi]; exact vp_in_nI hk hl) hdg ?_
  rw [hi, nI_clamp (by omega)]
  exact kk
theorem m_ldz (hexec : p.tables.exec = Jvm.exec) (hb : c.code = cc) (hK : kK g s) (h : mS g H0 H x ad F A B locs) (j : Nat) (hj : mK j = 3) {i : Int32} (k : Nat) (hi : i = nI k) (hk : k < mLen j) (hdg : decode cc pc = .ok (.baload, 1))
    (kk : W p l e R s m args below meth c H locs cells slots Q (F0 m (pc + 1) ls (.int (A j k) :: rest))) : W p l e R s m args below meth c H locs cells slots Q (F0 m pc ls (.int i :: .ref (ad j) :: rest)) := by
  have hl := mLen_lt j
  refine va_zald (D := g.1) hexec hb hK.1 (h.1.2.2.2.1 j hj) 0 5 rfl rfl (by rw [hi]; exact vp_in_nI hk hl) hdg ?_
  rw [hi, nI_clamp (by omega)]
  exact kk
theorem m_st (hexec : p.tables.exec = Jvm.exec) (hb : c.code = cc) (hK : kK g s) (h : mS g H0 H x ad F A B locs) (j : Nat) (hj : mK j = 1) {i v : Int32} (k : Nat) (hi : i = nI k) (hk : k < mLen j) (hdg : decode cc pc = .ok (.iastore, 1))
    (kk : ∀ (H1 : Heap) (locs1 : List Loc), mS g H0 H1 x ad F (updA A j (upd (A j) k v)) B locs1 → W p l e R s m args below meth c H1 locs1 cells slots Q (F0 m (pc + 1) ls rest)) : W p l e R s m args below meth c H locs cells slots Q (F0 m pc ls (.int v :: .int i :: .ref (ad j) :: rest)) := by
  obtain ⟨⟨w1, w2, w3, w4, w5, w6, w7⟩, hz, hq, hlo⟩ := h
  refine h_iast hexec hb hK (w2 j hj) k hi hk (mLen_lt j) hdg (fun H1 j9 f1 z oq => ?_)
  have hj0 : mK j ≠ 0 := by rw [hj]; decide
  refine kk H1 _ ⟨⟨ob_kept w1 (oq _ (w6 j hj0)), fun i hi2 => ?_, fun i hi2 => ar_kept (w3 i hi2) (oq _ (fun z => by have := w5 i j (by rw [hi2]; decide) hj0 z; subst this; rw [hj] at hi2; cases hi2)), fun i hi2 => ?_, w5, w6, w7⟩, z.trans hz, fun q h9 => (oq q (fun z => h9 (Or.inr ⟨j, hj0, z⟩))).trans (hq q h9), fun q h9 => ?_⟩
  · by_cases e : i = j
    · subst e; rw [updA, if_pos rfl]; exact f1
    · rw [updA, if_neg e]; exact ar_kept (w2 i hi2) (oq _ (fun z => e (w5 i j (by rw [hi2]; decide) hj0 z)))
  · have e : i ≠ j := fun z => by subst z; rw [hj] at hi2; cases hi2
    rw [updA, if_neg e]; exact ar_kept (w4 i hi2) (oq _ (fun z => e (w5 i j (by rw [hi2]; decide) hj0 z)))
  · rcases List.mem_append.mp h9 with h8 | h8
    · exact hlo q h8
    · rw [List.mem_singleton.mp h8]; exact Or.inr ⟨j, hj0, rfl⟩
theorem m_stz (hexec : p.tables.exec = Jvm.exec) (hb : c.code = cc) (hK : kK g s) (h : mS g H0 H x ad F A B locs) (j : Nat) (hj : mK j = 3) {i : Int32} {b : Bool} (k : Nat) (hi : i = nI k) (hk : k < mLen j) (hdg : decode cc pc = .ok (.bastore, 1))
    (kk : ∀ (H1 : Heap) (locs1 : List Loc), mS g H0 H1 x ad F (updA A j (upd (A j) k (bI b))) B locs1 → W p l e R s m args below meth c H1 locs1 cells slots Q (F0 m (pc + 1) ls rest)) : W p l e R s m args below meth c H locs cells slots Q (F0 m pc ls (.int (bI b) :: .int i :: .ref (ad j) :: rest)) := by
  obtain ⟨⟨w1, w2, w3, w4, w5, w6, w7⟩, hz, hq, hlo⟩ := h
  refine h_zast hexec hb hK (w4 j hj) k hi hk (mLen_lt j) hdg (fun H1 j9 f1 z oq => ?_)
  have hj0 : mK j ≠ 0 := by rw [hj]; decide
  refine kk H1 _ ⟨⟨ob_kept w1 (oq _ (w6 j hj0)), fun i hi2 => ?_, fun i hi2 => ar_kept (w3 i hi2) (oq _ (fun z => by have := w5 i j (by rw [hi2]; decide) hj0 z; subst this; rw [hj] at hi2; cases hi2)), fun i hi2 => ?_, w5, w6, w7⟩, z.trans hz, fun q h9 => (oq q (fun z => h9 (Or.inr ⟨j, hj0, z⟩))).trans (hq q h9), fun q h9 => ?_⟩
  · have e : i ≠ j := fun z => by subst z; rw [hj] at hi2; cases hi2
    rw [updA, if_neg e]; exact ar_kept (w2 i hi2) (oq _ (fun z => e (w5 i j (by rw [hi2]; decide) hj0 z)))
  · by_cases e : i = j
    · subst e; rw [updA, if_pos rfl]; exact f1
    · rw [updA, if_neg e]; exact ar_kept (w4 i hi2) (oq _ (fun z => e (w5 i j (by rw [hi2]; decide) hj0 z)))
  · rcases List.mem_append.mp h9 with h8 | h8
    · exact hlo q h8
    · rw [List.mem_singleton.mp h8]; exact Or.inr ⟨j, hj0, rfl⟩
theorem m_stl (hexec : p.tables.exec = Jvm.exec) (hb : c.code = cc) (hK : kK g s) (h : mS g H0 H x ad F A B locs) (j : Nat) (hj : mK j = 2) {i : Int32} {v : Int64} (k : Nat) (hi : i = nI k) (hk : k < mLen j) (hdg : decode cc pc = .ok (.lastore, 1))
    (kk : ∀ (H1 : Heap) (locs1 : List Loc), mS g H0 H1 x ad F A (updB B j (vp_updL (B j) k v)) locs1 → W p l e R s m args below meth c H1 locs1 cells slots Q (F0 m (pc + 1) ls rest)) : W p l e R s m args below meth c H locs cells slots Q (F0 m pc ls (.long v :: .int i :: .ref (ad j) :: rest)) := by
  obtain ⟨⟨w1, w2, w3, w4, w5, w6, w7⟩, hz, hq, hlo⟩ := h
  refine h_last hexec hb hK (w3 j hj) k hi hk (mLen_lt j) hdg (fun H1 j9 f1 z oq => ?_)
  have hj0 : mK j ≠ 0 := by rw [hj]; decide
  refine kk H1 _ ⟨⟨ob_kept w1 (oq _ (w6 j hj0)), fun i hi2 => ar_kept (w2 i hi2) (oq _ (fun z => by have := w5 i j (by rw [hi2]; decide) hj0 z; subst this; rw [hj] at hi2; cases hi2)), fun i hi2 => ?_, fun i hi2 => ar_kept (w4 i hi2) (oq _ (fun z => by have := w5 i j (by rw [hi2]; decide) hj0 z; subst this; rw [hj] at hi2; cases hi2)), w5, w6, w7⟩, z.trans hz, fun q h9 => (oq q (fun z => h9 (Or.inr ⟨j, hj0, z⟩))).trans (hq q h9), fun q h9 => ?_⟩
  · by_cases e : i = j
    · subst e; rw [updB, if_pos rfl]; exact f1
    · rw [updB, if_neg e]; exact ar_kept (w3 i hi2) (oq _ (fun z => e (w5 i j (by rw [hi2]; decide) hj0 z)))
  · rcases List.mem_append.mp h9 with h8 | h8
    · exact hlo q h8
    · rw [List.mem_singleton.mp h8]; exact Or.inr ⟨j, hj0, rfl⟩
theorem m_recv (hK : kK g s) (h : mS g H0 H x ad F A B locs) : ∃ cell : Cell, H[x]? = some cell ∧ cell.vm.isStatics = false ∧ s.vm.findClass "RegistryLogModel" = some cell.cls := ob_recv (ci := 8) (q := (R_M, F_M, 46)) hK h.1.1 rfl
theorem m_zK {U : State} (hZ : zK g U H0) (h : mS g H0 H x ad F A B locs) : zK g U H := hZ.kept (fun a _ h9 => h.2.2.1 a (fun z => h9 (h.1.2.2.2.2.2.2 a z)))
/-- behind a call of a method of the reference -/
theorem aM {a : Array Value} {st0 : List Value} {P : Option Value → (Nat → Int32) → (Nat → Nat → Int32) → (Nat → Nat → Int64) → Prop} (hr : va_Run p l e R s m args below meth c H locs cells slots 0 0 (F0 m pc ls st0) rest (qM g H x ad P a) (mN x ad)) (h : mS g H0 H x ad F A B locs)
    (kk : ∀ (v : Option Value) (F1 : Nat → Int32) (A1 : Nat → Nat → Int32) (B1 : Nat → Nat → Int64) (H1 : Heap) (locs1 : List Loc), P v F1 A1 B1 → mS g H0 H1 x ad F1 A1 B1 locs1 → W p l e R s m args below meth c H1 locs1 cells slots Q (F0 m (pc + 3) ls (v.toList ++ rest))) : W p l e R s m args below meth c H locs cells slots Q (F0 m pc ls st0) := by
  intro T hT X
  obtain ⟨v, st₀, t, T', L, h0, X', hL, e1, e2, ⟨v', F1, A1, B1, hv, hm, hp⟩, st⟩ := hr T hT X
  cases hv
  rw [← e1] at hm
  obtain ⟨t2, a1, b1⟩ := kk v F1 A1 B1 T'.heap (locs ++ L) hp ⟨hm.1, hm.2.1.trans h.2.1, fun q hq => (hm.2.2.1 q hq).trans (h.2.2.1 q hq), fun q hq => by
    rcases List.mem_append.mp hq with h8 | h8
    · exact h.2.2.2 q h8
    · exact hL q h8⟩ T' rfl X'
  exact ⟨t2, st t2 a1, b1⟩
end MW
end
section
/-! ROWS OVER NATURAL NUMBERS: sums, products, compares of ints that are natural numbers -/
section NT
variable {p : Program} {l : Launch} {e : Env} {R : Room} {s : State} {m : MethodId} {args : Array Value} {below : List Frame} {meth : Method} {c : Code} {H H0 : Heap} {locs : List Loc} {cells slots : Nat} {Q : State → Prop}
variable {cc : ByteArray} {pc : Nat} {ls : Array Slot} {rest : List Value} {g : gG} {a b : Nat} {off : Int} {tgt : Nat}
theorem n_iadd (hexec : p.tables.exec = Jvm.exec) (hb : c.code = cc) (hdg : decode cc pc = .ok (.iadd, 1)) (k : W p l e R s m args below meth c H locs cells slots Q (F0 m (pc + 1) ls (.int (nI (a + b)) :: rest))) : W p l e R s m args below meth c H locs cells slots Q (F0 m pc ls (.int (nI b) :: .int (nI a) :: rest)) := lv_iadd hexec hb hdg (by rw [nI_add]; exact k)
theorem n_imul (hexec : p.tables.exec = Jvm.exec) (hb : c.code = cc) (hdg : decode cc pc = .ok (.imul, 1)) (k : W p l e R s m args below meth c H locs cells slots Q (F0 m (pc + 1) ls (.int (nI (a * b)) :: rest))) : W p l e R s m args below meth c H locs cells slots Q (F0 m pc ls (.int (nI b) :: .int (nI a) :: rest)) := lv_imul hexec hb hdg (by rw [pk_mul]; exact k)
theorem n_isub (hexec : p.tables.exec = Jvm.exec) (hb : c.code = cc) (h : b ≤ a) (hdg : decode cc pc = .ok (.isub, 1)) (k : W p l e R s m args below meth c H locs cells slots Q (F0 m (pc + 1) ls (.int (nI (a - b)) :: rest))) : W p l e R s m args below meth c H locs cells slots Q (F0 m pc ls (.int (nI b) :: .int (nI a) :: rest)) := lv_isub hexec hb hdg (by rw [pk_sub h]; exact k)
theorem n_ge (hexec : p.tables.exec = Jvm.exec) (hb : c.code = cc) (hdg : decode cc pc = .ok (.if_icmp .ge off, 3)) (ht : (pc : Int) + off = (tgt : Int)) (ha : a < 2 ^ 31) (hc : b < 2 ^ 31)
    (kt : b ≤ a → W p l e R s m args below meth c H locs cells slots Q (F0 m tgt ls rest)) (kf : a < b → W p l e R s m args below meth c H locs cells slots Q (F0 m (pc + 3) ls rest)) : W p l e R s m args below meth c H locs cells slots Q (F0 m pc ls (.int (nI b) :: .int (nI a) :: rest)) :=
  lv_icmp_ge hexec hb hdg ht (fun h => kt ((nI_leI hc ha).mp h)) (fun h => kf (Nat.lt_of_not_le (fun z => h ((nI_leI hc ha).mpr z))))
theorem n_lt (hexec : p.tables.exec = Jvm.exec) (hb : c.code = cc) (hdg : decode cc pc = .ok (.if_icmp .lt off, 3)) (ht : (pc : Int) + off = (tgt : Int)) (ha : a < 2 ^ 31) (hc : b < 2 ^ 31)
    (kt : a < b → W p l e R s m args below meth c H locs cells slots Q (F0 m tgt ls rest)) (kf : b ≤ a → W p l e R s m args below meth c H locs cells slots Q (F0 m (pc + 3) ls rest)) : W p l e R s m args below meth c H locs cells slots Q (F0 m pc ls (.int (nI b) :: .int (nI a) :: rest)) :=
  lv_icmp_lt hexec hb hdg ht (fun h => kt ((nI_ltI ha hc).mp h)) (fun h => kf (Nat.le_of_not_lt (fun z => h ((nI_ltI ha hc).mpr z))))
theorem n_gt (hexec : p.tables.exec = Jvm.exec) (hb : c.code = cc) (hdg : decode cc pc = .ok (.if_icmp .gt off, 3)) (ht : (pc : Int) + off = (tgt : Int)) (ha : a < 2 ^ 31) (hc : b < 2 ^ 31)
    (kt : b < a → W p l e R s m args below meth c H locs cells slots Q (F0 m tgt ls rest)) (kf : a ≤ b → W p l e R s m args below meth c H locs cells slots Q (F0 m (pc + 3) ls rest)) : W p l e R s m args below meth c H locs cells slots Q (F0 m pc ls (.int (nI b) :: .int (nI a) :: rest)) :=
  lv_icmp_gt hexec hb hdg ht (fun h => kt ((nI_ltI hc ha).mp h)) (fun h => kf (Nat.le_of_not_lt (fun z => h ((nI_ltI hc ha).mpr z))))
theorem n_le (hexec : p.tables.exec = Jvm.exec) (hb : c.code = cc) (hdg : decode cc pc = .ok (.if_icmp .le off, 3)) (ht : (pc : Int) + off = (tgt : Int)) (ha : a < 2 ^ 31) (hc : b < 2 ^ 31)
    (kt : a ≤ b → W p l e R s m args below meth c H locs cells slots Q (F0 m tgt ls rest)) (kf : b < a → W p l e R s m args below meth c H locs cells slots Q (F0 m (pc + 3) ls rest)) : W p l e R s m args below meth c H locs cells slots Q (F0 m pc ls (.int (nI b) :: .int (nI a) :: rest)) :=
  lv_icmp_le hexec hb hdg ht (fun h => kt ((nI_leI ha hc).mp h)) (fun h => kf (Nat.lt_of_not_le (fun z => h ((nI_leI ha hc).mpr z))))
theorem n_eq (hexec : p.tables.exec = Jvm.exec) (hb : c.code = cc) (hdg : decode cc pc = .ok (.if_icmp .eq off, 3)) (ht : (pc : Int) + off = (tgt : Int)) (ha : a < 2 ^ 31) (hc : b < 2 ^ 31)
    (kt : a = b → W p l e R s m args below meth c H locs cells slots Q (F0 m tgt ls rest)) (kf : a ≠ b → W p l e R s m args below meth c H locs cells slots Q (F0 m (pc + 3) ls rest)) : W p l e R s m args below meth c H locs cells slots Q (F0 m pc ls (.int (nI b) :: .int (nI a) :: rest)) :=
  lv_icmp_eq hexec hb hdg ht (fun h => kt ((nI_eq ha hc).mp h)) (fun h => kf (fun z => h ((nI_eq ha hc).mpr z)))
theorem n_ne (hexec : p.tables.exec = Jvm.exec) (hb : c.code = cc) (hdg : decode cc pc = .ok (.if_icmp .ne off, 3)) (ht : (pc : Int) + off = (tgt : Int)) (ha : a < 2 ^ 31) (hc : b < 2 ^ 31)
    (kt : a ≠ b → W p l e R s m args below meth c H locs cells slots Q (F0 m tgt ls rest)) (kf : a = b → W p l e R s m args below meth c H locs cells slots Q (F0 m (pc + 3) ls rest)) : W p l e R s m args below meth c H locs cells slots Q (F0 m pc ls (.int (nI b) :: .int (nI a) :: rest)) :=
  lv_icmp_ne hexec hb hdg ht (fun h => kt (fun z => h ((nI_eq ha hc).mpr z))) (fun h => kf ((nI_eq ha hc).mp h))
variable {v : Bool}
/-- a branch on a truth -/
theorem z_eq (hexec : p.tables.exec = Jvm.exec) (hb : c.code = cc) (hdg : decode cc pc = .ok (.ifCond .eq off, 3)) (ht : (pc : Int) + off = (tgt : Int))
    (kt : v = false → W p l e R s m args below meth c H locs cells slots Q (F0 m tgt ls rest)) (kf : v = true → W p l e R s m args below meth c H locs cells slots Q (F0 m (pc + 3) ls rest)) : W p l e R s m args below meth c H locs cells slots Q (F0 m pc ls (.int (bI v) :: rest)) :=
  lv_if_eq hexec hb hdg ht (fun h => kt (bI_z.mp h)) (fun h => kf (bI_n.mp h))
theorem z_ne (hexec : p.tables.exec = Jvm.exec) (hb : c.code = cc) (hdg : decode cc pc = .ok (.ifCond .ne off, 3)) (ht : (pc : Int) + off = (tgt : Int))
    (kt : v = true → W p l e R s m args below meth c H locs cells slots Q (F0 m tgt ls rest)) (kf : v = false → W p l e R s m args below meth c H locs cells slots Q (F0 m (pc + 3) ls rest)) : W p l e R s m args below meth c H locs cells slots Q (F0 m pc ls (.int (bI v) :: rest)) :=
  lv_if_ne hexec hb hdg ht (fun h => kt (bI_n.mp h)) (fun h => kf (bI_z.mp h))
variable {x : Nat} {ad : Nat → Nat} {F : Nat → Int32} {A : Nat → Nat → Int32} {B : Nat → Nat → Int64}
theorem m_get (hexec : p.tables.exec = Jvm.exec) (hb : c.code = cc) (hts : ∀ w ∈ gT, w.before args s = true) (hown : s.vm.findClass "RegistryLogModel" = some m.cls) (hK : kK g s) (h : mS g H0 H x ad F A B locs) {index : Nat} (k : Nat) (hk : k < 46) (hlink : (Cond.fieldLink "RegistryLogModel" index "RegistryLogModel" (F_M k).2.1 (F_M k).2.2.1).before args s = true) (hr : (F_M k).1 = "RegistryLogModel") {v : Value} (hv : (mF ad F)[k]? = some v) (hdg : decode cc pc = .ok (.getfield index, 3))
    (kk : W p l e R s m args below meth c H locs cells slots Q (F0 m (pc + 3) ls (v :: rest))) : W p l e R s m args below meth c H locs cells slots Q (F0 m pc ls (.ref x :: rest)) :=
  va_get (D := g.1) (ci := 8) (C := R_M) (T := F_M) (N := 46) hexec hb hts i_M hown hK.1 h.1.1 0 rfl rfl k hk hlink (fun y hy => by rw [← hr]; exact hy) hv hdg kk
theorem n_inc (hexec : p.tables.exec = Jvm.exec) (hb : c.code = cc) {i nL k a : Nat} {lv lv' : List (Nat × Value)} (hdg : decode cc pc = .ok (.iinc i 1, 3)) (h : lv_has ls nL lv) (hk : lv[k]? = some (i, .int (nI a))) (hn : i < nL) (hl : (i, Value.int (nI (a + 1))) :: lv.filter (fun q => !(q.1 == i) && !(q.1 + 1 == i && q.2.category == 2)) = lv')
    (kk : ∀ ls' : Array Slot, lv_has ls' nL lv' → W p l e R s m args below meth c H locs cells slots Q (F0 m (pc + 3) ls' rest)) : W p l e R s m args below meth c H locs cells slots Q (F0 m pc ls rest) :=
  lv_iinc (v := nI (a + 1)) hexec hb hdg h hk (by rw [show Int32.ofInt 1 = 1 from rfl, nI_1]) hn hl kk
end NT
end
section
abbrev b_M_init : ByteArray := prog_9_method_1_code
def y_M_init : MethodName := ⟨"RegistryLogModel", "<init>", "()V"⟩
theorem d_M_init_0 : decode b_M_init 0 = .ok (.aload_n 0, 1) := by decide +kernel
theorem d_M_init_1 : decode b_M_init 1 = .ok (.invokespecial 1, 3) := by decide +kernel
theorem d_M_init_4 : decode b_M_init 4 = .ok (.aload_n 0, 1) := by decide +kernel
theorem d_M_init_5 : decode b_M_init 5 = .ok (.bipush 24, 2) := by decide +kernel
theorem d_M_init_7 : decode b_M_init 7 = .ok (.newarray .int, 2) := by decide +kernel
theorem d_M_init_9 : decode b_M_init 9 = .ok (.putfield 7, 3) := by decide +kernel
theorem d_M_init_12 : decode b_M_init 12 = .ok (.aload_n 0, 1) := by decide +kernel
theorem d_M_init_13 : decode b_M_init 13 = .ok (.bipush 120, 2) := by decide +kernel
theorem d_M_init_15 : decode b_M_init 15 = .ok (.newarray .int, 2) := by decide +kernel
theorem d_M_init_17 : decode b_M_init 17 = .ok (.putfield 13, 3) := by decide +kernel
theorem d_M_init_20 : decode b_M_init 20 = .ok (.aload_n 0, 1) := by decide +kernel
theorem d_M_init_21 : decode b_M_init 21 = .ok (.bipush 120, 2) := by decide +kernel
theorem d_M_init_23 : decode b_M_init 23 = .ok (.newarray .int, 2) := by decide +kernel
theorem d_M_init_25 : decode b_M_init 25 = .ok (.putfield 16, 3) := by decide +kernel
theorem d_M_init_28 : decode b_M_init 28 = .ok (.aload_n 0, 1) := by decide +kernel
theorem d_M_init_29 : decode b_M_init 29 = .ok (.bipush 120, 2) := by decide +kernel
theorem d_M_init_31 : decode b_M_init 31 = .ok (.newarray .int, 2) := by decide +kernel
theorem d_M_init_33 : decode b_M_init 33 = .ok (.putfield 19, 3) := by decide +kernel
theorem d_M_init_36 : decode b_M_init 36 = .ok (.aload_n 0, 1) := by decide +kernel
theorem d_M_init_37 : decode b_M_init 37 = .ok (.bipush 120, 2) := by decide +kernel
theorem d_M_init_39 : decode b_M_init 39 = .ok (.newarray .int, 2) := by decide +kernel
theorem d_M_init_41 : decode b_M_init 41 = .ok (.putfield 22, 3) := by decide +kernel
theorem d_M_init_44 : decode b_M_init 44 = .ok (.aload_n 0, 1) := by decide +kernel
theorem d_M_init_45 : decode b_M_init 45 = .ok (.bipush 120, 2) := by decide +kernel
theorem d_M_init_47 : decode b_M_init 47 = .ok (.newarray .int, 2) := by decide +kernel
theorem d_M_init_49 : decode b_M_init 49 = .ok (.putfield 25, 3) := by decide +kernel
theorem d_M_init_52 : decode b_M_init 52 = .ok (.aload_n 0, 1) := by decide +kernel
theorem d_M_init_53 : decode b_M_init 53 = .ok (.bipush 120, 2) := by decide +kernel
theorem d_M_init_55 : decode b_M_init 55 = .ok (.newarray .int, 2) := by decide +kernel
theorem d_M_init_57 : decode b_M_init 57 = .ok (.putfield 28, 3) := by decide +kernel
theorem d_M_init_60 : decode b_M_init 60 = .ok (.aload_n 0, 1) := by decide +kernel
theorem d_M_init_61 : decode b_M_init 61 = .ok (.sipush 1200, 3) := by decide +kernel
theorem d_M_init_64 : decode b_M_init 64 = .ok (.newarray .int, 2) := by decide +kernel
theorem d_M_init_66 : decode b_M_init 66 = .ok (.putfield 31, 3) := by decide +kernel
theorem d_M_init_69 : decode b_M_init 69 = .ok (.aload_n 0, 1) := by decide +kernel
theorem d_M_init_70 : decode b_M_init 70 = .ok (.sipush 1200, 3) := by decide +kernel
theorem d_M_init_73 : decode b_M_init 73 = .ok (.newarray .int, 2) := by decide +kernel
theorem d_M_init_75 : decode b_M_init 75 = .ok (.putfield 34, 3) := by decide +kernel
theorem d_M_init_78 : decode b_M_init 78 = .ok (.aload_n 0, 1) := by decide +kernel
theorem d_M_init_79 : decode b_M_init 79 = .ok (.sipush 600, 3) := by decide +kernel
theorem d_M_init_82 : decode b_M_init 82 = .ok (.newarray .int, 2) := by decide +kernel
theorem d_M_init_84 : decode b_M_init 84 = .ok (.putfield 37, 3) := by decide +kernel
theorem d_M_init_87 : decode b_M_init 87 = .ok (.aload_n 0, 1) := by decide +kernel
theorem d_M_init_88 : decode b_M_init 88 = .ok (.iconst 5, 1) := by decide +kernel
theorem d_M_init_89 : decode b_M_init 89 = .ok (.newarray .int, 2) := by decide +kernel
theorem d_M_init_91 : decode b_M_init 91 = .ok (.putfield 40, 3) := by decide +kernel
theorem d_M_init_94 : decode b_M_init 94 = .ok (.aload_n 0, 1) := by decide +kernel
theorem d_M_init_95 : decode b_M_init 95 = .ok (.bipush 16, 2) := by decide +kernel
theorem d_M_init_97 : decode b_M_init 97 = .ok (.newarray .long, 2) := by decide +kernel
theorem d_M_init_99 : decode b_M_init 99 = .ok (.putfield 43, 3) := by decide +kernel
theorem d_M_init_102 : decode b_M_init 102 = .ok (.aload_n 0, 1) := by decide +kernel
theorem d_M_init_103 : decode b_M_init 103 = .ok (.bipush 16, 2) := by decide +kernel
theorem d_M_init_105 : decode b_M_init 105 = .ok (.newarray .long, 2) := by decide +kernel
theorem d_M_init_107 : decode b_M_init 107 = .ok (.putfield 47, 3) := by decide +kernel
theorem d_M_init_110 : decode b_M_init 110 = .ok (.aload_n 0, 1) := by decide +kernel
theorem d_M_init_111 : decode b_M_init 111 = .ok (.sipush 2400, 3) := by decide +kernel
theorem d_M_init_114 : decode b_M_init 114 = .ok (.newarray .int, 2) := by decide +kernel
theorem d_M_init_116 : decode b_M_init 116 = .ok (.putfield 50, 3) := by decide +kernel
theorem d_M_init_119 : decode b_M_init 119 = .ok (.aload_n 0, 1) := by decide +kernel
theorem d_M_init_120 : decode b_M_init 120 = .ok (.sipush 240, 3) := by decide +kernel
theorem d_M_init_123 : decode b_M_init 123 = .ok (.newarray .int, 2) := by decide +kernel
theorem d_M_init_125 : decode b_M_init 125 = .ok (.putfield 53, 3) := by decide +kernel
theorem d_M_init_128 : decode b_M_init 128 = .ok (.aload_n 0, 1) := by decide +kernel
theorem d_M_init_129 : decode b_M_init 129 = .ok (.sipush 240, 3) := by decide +kernel
theorem d_M_init_132 : decode b_M_init 132 = .ok (.newarray .int, 2) := by decide +kernel
theorem d_M_init_134 : decode b_M_init 134 = .ok (.putfield 56, 3) := by decide +kernel
theorem d_M_init_137 : decode b_M_init 137 = .ok (.aload_n 0, 1) := by decide +kernel
theorem d_M_init_138 : decode b_M_init 138 = .ok (.sipush 240, 3) := by decide +kernel
theorem d_M_init_141 : decode b_M_init 141 = .ok (.newarray .int, 2) := by decide +kernel
theorem d_M_init_143 : decode b_M_init 143 = .ok (.putfield 59, 3) := by decide +kernel
theorem d_M_init_146 : decode b_M_init 146 = .ok (.aload_n 0, 1) := by decide +kernel
theorem d_M_init_147 : decode b_M_init 147 = .ok (.bipush 120, 2) := by decide +kernel
theorem d_M_init_149 : decode b_M_init 149 = .ok (.newarray .int, 2) := by decide +kernel
theorem d_M_init_151 : decode b_M_init 151 = .ok (.putfield 62, 3) := by decide +kernel
theorem d_M_init_154 : decode b_M_init 154 = .ok (.aload_n 0, 1) := by decide +kernel
theorem d_M_init_155 : decode b_M_init 155 = .ok (.bipush 120, 2) := by decide +kernel
theorem d_M_init_157 : decode b_M_init 157 = .ok (.newarray .int, 2) := by decide +kernel
theorem d_M_init_159 : decode b_M_init 159 = .ok (.putfield 65, 3) := by decide +kernel
theorem d_M_init_162 : decode b_M_init 162 = .ok (.aload_n 0, 1) := by decide +kernel
theorem d_M_init_163 : decode b_M_init 163 = .ok (.bipush 120, 2) := by decide +kernel
theorem d_M_init_165 : decode b_M_init 165 = .ok (.newarray .int, 2) := by decide +kernel
theorem d_M_init_167 : decode b_M_init 167 = .ok (.putfield 68, 3) := by decide +kernel
theorem d_M_init_170 : decode b_M_init 170 = .ok (.aload_n 0, 1) := by decide +kernel
theorem d_M_init_171 : decode b_M_init 171 = .ok (.bipush 120, 2) := by decide +kernel
theorem d_M_init_173 : decode b_M_init 173 = .ok (.newarray .int, 2) := by decide +kernel
theorem d_M_init_175 : decode b_M_init 175 = .ok (.putfield 71, 3) := by decide +kernel
theorem d_M_init_178 : decode b_M_init 178 = .ok (.aload_n 0, 1) := by decide +kernel
theorem d_M_init_179 : decode b_M_init 179 = .ok (.bipush 120, 2) := by decide +kernel
theorem d_M_init_181 : decode b_M_init 181 = .ok (.newarray .int, 2) := by decide +kernel
theorem d_M_init_183 : decode b_M_init 183 = .ok (.putfield 74, 3) := by decide +kernel
theorem d_M_init_186 : decode b_M_init 186 = .ok (.aload_n 0, 1) := by decide +kernel
theorem d_M_init_187 : decode b_M_init 187 = .ok (.bipush 120, 2) := by decide +kernel
theorem d_M_init_189 : decode b_M_init 189 = .ok (.newarray .int, 2) := by decide +kernel
theorem d_M_init_191 : decode b_M_init 191 = .ok (.putfield 77, 3) := by decide +kernel
theorem d_M_init_194 : decode b_M_init 194 = .ok (.aload_n 0, 1) := by decide +kernel
theorem d_M_init_195 : decode b_M_init 195 = .ok (.bipush 10, 2) := by decide +kernel
theorem d_M_init_197 : decode b_M_init 197 = .ok (.newarray .int, 2) := by decide +kernel
theorem d_M_init_199 : decode b_M_init 199 = .ok (.putfield 80, 3) := by decide +kernel
theorem d_M_init_202 : decode b_M_init 202 = .ok (.aload_n 0, 1) := by decide +kernel
theorem d_M_init_203 : decode b_M_init 203 = .ok (.bipush 10, 2) := by decide +kernel
theorem d_M_init_205 : decode b_M_init 205 = .ok (.newarray .int, 2) := by decide +kernel
theorem d_M_init_207 : decode b_M_init 207 = .ok (.putfield 83, 3) := by decide +kernel
theorem d_M_init_210 : decode b_M_init 210 = .ok (.aload_n 0, 1) := by decide +kernel
theorem d_M_init_211 : decode b_M_init 211 = .ok (.bipush 10, 2) := by decide +kernel
theorem d_M_init_213 : decode b_M_init 213 = .ok (.newarray .int, 2) := by decide +kernel
theorem d_M_init_215 : decode b_M_init 215 = .ok (.putfield 86, 3) := by decide +kernel
theorem d_M_init_218 : decode b_M_init 218 = .ok (.aload_n 0, 1) := by decide +kernel
theorem d_M_init_219 : decode b_M_init 219 = .ok (.bipush 10, 2) := by decide +kernel
theorem d_M_init_221 : decode b_M_init 221 = .ok (.newarray .int, 2) := by decide +kernel
theorem d_M_init_223 : decode b_M_init 223 = .ok (.putfield 89, 3) := by decide +kernel
theorem d_M_init_226 : decode b_M_init 226 = .ok (.aload_n 0, 1) := by decide +kernel
theorem d_M_init_227 : decode b_M_init 227 = .ok (.sipush 128, 3) := by decide +kernel
theorem d_M_init_230 : decode b_M_init 230 = .ok (.newarray .long, 2) := by decide +kernel
theorem d_M_init_232 : decode b_M_init 232 = .ok (.putfield 92, 3) := by decide +kernel
theorem d_M_init_235 : decode b_M_init 235 = .ok (.aload_n 0, 1) := by decide +kernel
theorem d_M_init_236 : decode b_M_init 236 = .ok (.bipush 8, 2) := by decide +kernel
theorem d_M_init_238 : decode b_M_init 238 = .ok (.newarray .long, 2) := by decide +kernel
theorem d_M_init_240 : decode b_M_init 240 = .ok (.putfield 95, 3) := by decide +kernel
theorem d_M_init_243 : decode b_M_init 243 = .ok (.aload_n 0, 1) := by decide +kernel
theorem d_M_init_244 : decode b_M_init 244 = .ok (.bipush 16, 2) := by decide +kernel
theorem d_M_init_246 : decode b_M_init 246 = .ok (.newarray .int, 2) := by decide +kernel
theorem d_M_init_248 : decode b_M_init 248 = .ok (.putfield 98, 3) := by decide +kernel
theorem d_M_init_251 : decode b_M_init 251 = .ok (.aload_n 0, 1) := by decide +kernel
theorem d_M_init_252 : decode b_M_init 252 = .ok (.bipush 16, 2) := by decide +kernel
theorem d_M_init_254 : decode b_M_init 254 = .ok (.newarray .int, 2) := by decide +kernel
theorem d_M_init_256 : decode b_M_init 256 = .ok (.putfield 101, 3) := by decide +kernel
theorem d_M_init_259 : decode b_M_init 259 = .ok (.aload_n 0, 1) := by decide +kernel
theorem d_M_init_260 : decode b_M_init 260 = .ok (.bipush 16, 2) := by decide +kernel
theorem d_M_init_262 : decode b_M_init 262 = .ok (.newarray .boolean, 2) := by decide +kernel
theorem d_M_init_264 : decode b_M_init 264 = .ok (.putfield 104, 3) := by decide +kernel
theorem d_M_init_267 : decode b_M_init 267 = .ok (.return_, 1) := by decide +kernel

abbrev b_M_thrown : ByteArray := prog_9_method_2_code
def y_M_thrown : MethodName := ⟨"RegistryLogModel", "thrown", "()I"⟩
theorem d_M_thrown_0 : decode b_M_thrown 0 = .ok (.aload_n 0, 1) := by decide +kernel
theorem d_M_thrown_1 : decode b_M_thrown 1 = .ok (.getfield 108, 3) := by decide +kernel
theorem d_M_thrown_4 : decode b_M_thrown 4 = .ok (.ireturn, 1) := by decide +kernel

abbrev b_M_refuses : ByteArray := prog_9_method_3_code
def y_M_refuses : MethodName := ⟨"RegistryLogModel", "refuses", "(ZZ)Z"⟩
theorem d_M_refuses_0 : decode b_M_refuses 0 = .ok (.aload_n 0, 1) := by decide +kernel
theorem d_M_refuses_1 : decode b_M_refuses 1 = .ok (.iload_n 1, 1) := by decide +kernel
theorem d_M_refuses_2 : decode b_M_refuses 2 = .ok (.ifCond .eq 7, 3) := by decide +kernel
theorem d_M_refuses_5 : decode b_M_refuses 5 = .ok (.iconst 1, 1) := by decide +kernel
theorem d_M_refuses_6 : decode b_M_refuses 6 = .ok (.goto 12, 3) := by decide +kernel
theorem d_M_refuses_9 : decode b_M_refuses 9 = .ok (.iload_n 2, 1) := by decide +kernel
theorem d_M_refuses_10 : decode b_M_refuses 10 = .ok (.ifCond .eq 7, 3) := by decide +kernel
theorem d_M_refuses_13 : decode b_M_refuses 13 = .ok (.iconst 2, 1) := by decide +kernel
theorem d_M_refuses_14 : decode b_M_refuses 14 = .ok (.goto 4, 3) := by decide +kernel
theorem d_M_refuses_17 : decode b_M_refuses 17 = .ok (.iconst 0, 1) := by decide +kernel
theorem d_M_refuses_18 : decode b_M_refuses 18 = .ok (.putfield 108, 3) := by decide +kernel
theorem d_M_refuses_21 : decode b_M_refuses 21 = .ok (.aload_n 0, 1) := by decide +kernel
theorem d_M_refuses_22 : decode b_M_refuses 22 = .ok (.getfield 108, 3) := by decide +kernel
theorem d_M_refuses_25 : decode b_M_refuses 25 = .ok (.ifCond .le 7, 3) := by decide +kernel
theorem d_M_refuses_28 : decode b_M_refuses 28 = .ok (.iconst 1, 1) := by decide +kernel
theorem d_M_refuses_29 : decode b_M_refuses 29 = .ok (.goto 4, 3) := by decide +kernel
theorem d_M_refuses_32 : decode b_M_refuses 32 = .ok (.iconst 0, 1) := by decide +kernel
theorem d_M_refuses_33 : decode b_M_refuses 33 = .ok (.ireturn, 1) := by decide +kernel

abbrev b_M_type : ByteArray := prog_9_method_4_code
def y_M_type : MethodName := ⟨"RegistryLogModel", "type", "(C)Z"⟩
theorem d_M_type_0 : decode b_M_type 0 = .ok (.aload_n 0, 1) := by decide +kernel
theorem d_M_type_1 : decode b_M_type 1 = .ok (.iconst 0, 1) := by decide +kernel
theorem d_M_type_2 : decode b_M_type 2 = .ok (.putfield 108, 3) := by decide +kernel
theorem d_M_type_5 : decode b_M_type 5 = .ok (.iload_n 1, 1) := by decide +kernel
theorem d_M_type_6 : decode b_M_type 6 = .ok (.bipush 32, 2) := by decide +kernel
theorem d_M_type_8 : decode b_M_type 8 = .ok (.if_icmp .lt 18, 3) := by decide +kernel
theorem d_M_type_11 : decode b_M_type 11 = .ok (.iload_n 1, 1) := by decide +kernel
theorem d_M_type_12 : decode b_M_type 12 = .ok (.bipush 126, 2) := by decide +kernel
theorem d_M_type_14 : decode b_M_type 14 = .ok (.if_icmp .gt 12, 3) := by decide +kernel
theorem d_M_type_17 : decode b_M_type 17 = .ok (.aload_n 0, 1) := by decide +kernel
theorem d_M_type_18 : decode b_M_type 18 = .ok (.getfield 112, 3) := by decide +kernel
theorem d_M_type_21 : decode b_M_type 21 = .ok (.bipush 24, 2) := by decide +kernel
theorem d_M_type_23 : decode b_M_type 23 = .ok (.if_icmp .ne 5, 3) := by decide +kernel
theorem d_M_type_26 : decode b_M_type 26 = .ok (.iconst 0, 1) := by decide +kernel
theorem d_M_type_27 : decode b_M_type 27 = .ok (.ireturn, 1) := by decide +kernel
theorem d_M_type_28 : decode b_M_type 28 = .ok (.aload_n 0, 1) := by decide +kernel
theorem d_M_type_29 : decode b_M_type 29 = .ok (.getfield 7, 3) := by decide +kernel
theorem d_M_type_32 : decode b_M_type 32 = .ok (.aload_n 0, 1) := by decide +kernel
theorem d_M_type_33 : decode b_M_type 33 = .ok (.getfield 112, 3) := by decide +kernel
theorem d_M_type_36 : decode b_M_type 36 = .ok (.iload_n 1, 1) := by decide +kernel
theorem d_M_type_37 : decode b_M_type 37 = .ok (.iastore, 1) := by decide +kernel
theorem d_M_type_38 : decode b_M_type 38 = .ok (.aload_n 0, 1) := by decide +kernel
theorem d_M_type_39 : decode b_M_type 39 = .ok (.dup, 1) := by decide +kernel
theorem d_M_type_40 : decode b_M_type 40 = .ok (.getfield 112, 3) := by decide +kernel
theorem d_M_type_43 : decode b_M_type 43 = .ok (.iconst 1, 1) := by decide +kernel
theorem d_M_type_44 : decode b_M_type 44 = .ok (.iadd, 1) := by decide +kernel
theorem d_M_type_45 : decode b_M_type 45 = .ok (.putfield 112, 3) := by decide +kernel
theorem d_M_type_48 : decode b_M_type 48 = .ok (.iconst 1, 1) := by decide +kernel
theorem d_M_type_49 : decode b_M_type 49 = .ok (.ireturn, 1) := by decide +kernel

abbrev b_M_isLetter : ByteArray := prog_9_method_5_code
def y_M_isLetter : MethodName := ⟨"RegistryLogModel", "isLetter", "(I)Z"⟩
theorem d_M_isLetter_0 : decode b_M_isLetter 0 = .ok (.iload_n 0, 1) := by decide +kernel
theorem d_M_isLetter_1 : decode b_M_isLetter 1 = .ok (.bipush 97, 2) := by decide +kernel
theorem d_M_isLetter_3 : decode b_M_isLetter 3 = .ok (.if_icmp .lt 13, 3) := by decide +kernel
theorem d_M_isLetter_6 : decode b_M_isLetter 6 = .ok (.iload_n 0, 1) := by decide +kernel
theorem d_M_isLetter_7 : decode b_M_isLetter 7 = .ok (.bipush 122, 2) := by decide +kernel
theorem d_M_isLetter_9 : decode b_M_isLetter 9 = .ok (.if_icmp .gt 7, 3) := by decide +kernel
theorem d_M_isLetter_12 : decode b_M_isLetter 12 = .ok (.iconst 1, 1) := by decide +kernel
theorem d_M_isLetter_13 : decode b_M_isLetter 13 = .ok (.goto 4, 3) := by decide +kernel
theorem d_M_isLetter_16 : decode b_M_isLetter 16 = .ok (.iconst 0, 1) := by decide +kernel
theorem d_M_isLetter_17 : decode b_M_isLetter 17 = .ok (.ireturn, 1) := by decide +kernel

abbrev b_M_isName : ByteArray := prog_9_method_6_code
def y_M_isName : MethodName := ⟨"RegistryLogModel", "isName", "(II)Z"⟩
theorem d_M_isName_0 : decode b_M_isName 0 = .ok (.iload_n 2, 1) := by decide +kernel
theorem d_M_isName_1 : decode b_M_isName 1 = .ok (.iload_n 1, 1) := by decide +kernel
theorem d_M_isName_2 : decode b_M_isName 2 = .ok (.isub, 1) := by decide +kernel
theorem d_M_isName_3 : decode b_M_isName 3 = .ok (.iconst 1, 1) := by decide +kernel
theorem d_M_isName_4 : decode b_M_isName 4 = .ok (.if_icmp .lt 41, 3) := by decide +kernel
theorem d_M_isName_7 : decode b_M_isName 7 = .ok (.iload_n 2, 1) := by decide +kernel
theorem d_M_isName_8 : decode b_M_isName 8 = .ok (.iload_n 1, 1) := by decide +kernel
theorem d_M_isName_9 : decode b_M_isName 9 = .ok (.isub, 1) := by decide +kernel
theorem d_M_isName_10 : decode b_M_isName 10 = .ok (.bipush 10, 2) := by decide +kernel
theorem d_M_isName_12 : decode b_M_isName 12 = .ok (.if_icmp .gt 33, 3) := by decide +kernel
theorem d_M_isName_15 : decode b_M_isName 15 = .ok (.aload_n 0, 1) := by decide +kernel
theorem d_M_isName_16 : decode b_M_isName 16 = .ok (.getfield 7, 3) := by decide +kernel
theorem d_M_isName_19 : decode b_M_isName 19 = .ok (.iload_n 1, 1) := by decide +kernel
theorem d_M_isName_20 : decode b_M_isName 20 = .ok (.iaload, 1) := by decide +kernel
theorem d_M_isName_21 : decode b_M_isName 21 = .ok (.invokestatic 115, 3) := by decide +kernel
theorem d_M_isName_24 : decode b_M_isName 24 = .ok (.ifCond .eq 21, 3) := by decide +kernel
theorem d_M_isName_27 : decode b_M_isName 27 = .ok (.aload_n 0, 1) := by decide +kernel
theorem d_M_isName_28 : decode b_M_isName 28 = .ok (.getfield 7, 3) := by decide +kernel
theorem d_M_isName_31 : decode b_M_isName 31 = .ok (.iload_n 2, 1) := by decide +kernel
theorem d_M_isName_32 : decode b_M_isName 32 = .ok (.iconst 1, 1) := by decide +kernel
theorem d_M_isName_33 : decode b_M_isName 33 = .ok (.isub, 1) := by decide +kernel
theorem d_M_isName_34 : decode b_M_isName 34 = .ok (.iaload, 1) := by decide +kernel
theorem d_M_isName_35 : decode b_M_isName 35 = .ok (.invokestatic 115, 3) := by decide +kernel
theorem d_M_isName_38 : decode b_M_isName 38 = .ok (.ifCond .eq 7, 3) := by decide +kernel
theorem d_M_isName_41 : decode b_M_isName 41 = .ok (.iconst 1, 1) := by decide +kernel
theorem d_M_isName_42 : decode b_M_isName 42 = .ok (.goto 4, 3) := by decide +kernel
theorem d_M_isName_45 : decode b_M_isName 45 = .ok (.iconst 0, 1) := by decide +kernel
theorem d_M_isName_46 : decode b_M_isName 46 = .ok (.istore_n 3, 1) := by decide +kernel
theorem d_M_isName_47 : decode b_M_isName 47 = .ok (.iload_n 1, 1) := by decide +kernel
theorem d_M_isName_48 : decode b_M_isName 48 = .ok (.istore 4, 2) := by decide +kernel
theorem d_M_isName_50 : decode b_M_isName 50 = .ok (.iload 4, 2) := by decide +kernel
theorem d_M_isName_52 : decode b_M_isName 52 = .ok (.iload_n 2, 1) := by decide +kernel
theorem d_M_isName_53 : decode b_M_isName 53 = .ok (.if_icmp .ge 58, 3) := by decide +kernel
theorem d_M_isName_56 : decode b_M_isName 56 = .ok (.iload_n 3, 1) := by decide +kernel
theorem d_M_isName_57 : decode b_M_isName 57 = .ok (.ifCond .eq 54, 3) := by decide +kernel
theorem d_M_isName_60 : decode b_M_isName 60 = .ok (.aload_n 0, 1) := by decide +kernel
theorem d_M_isName_61 : decode b_M_isName 61 = .ok (.getfield 7, 3) := by decide +kernel
theorem d_M_isName_64 : decode b_M_isName 64 = .ok (.iload 4, 2) := by decide +kernel
theorem d_M_isName_66 : decode b_M_isName 66 = .ok (.iaload, 1) := by decide +kernel
theorem d_M_isName_67 : decode b_M_isName 67 = .ok (.invokestatic 115, 3) := by decide +kernel
theorem d_M_isName_70 : decode b_M_isName 70 = .ok (.ifCond .ne 29, 3) := by decide +kernel
theorem d_M_isName_73 : decode b_M_isName 73 = .ok (.aload_n 0, 1) := by decide +kernel
theorem d_M_isName_74 : decode b_M_isName 74 = .ok (.getfield 7, 3) := by decide +kernel
theorem d_M_isName_77 : decode b_M_isName 77 = .ok (.iload 4, 2) := by decide +kernel
theorem d_M_isName_79 : decode b_M_isName 79 = .ok (.iaload, 1) := by decide +kernel
theorem d_M_isName_80 : decode b_M_isName 80 = .ok (.bipush 45, 2) := by decide +kernel
theorem d_M_isName_82 : decode b_M_isName 82 = .ok (.if_icmp .ne 21, 3) := by decide +kernel
theorem d_M_isName_85 : decode b_M_isName 85 = .ok (.aload_n 0, 1) := by decide +kernel
theorem d_M_isName_86 : decode b_M_isName 86 = .ok (.getfield 7, 3) := by decide +kernel
theorem d_M_isName_89 : decode b_M_isName 89 = .ok (.iload 4, 2) := by decide +kernel
theorem d_M_isName_91 : decode b_M_isName 91 = .ok (.iconst 1, 1) := by decide +kernel
theorem d_M_isName_92 : decode b_M_isName 92 = .ok (.isub, 1) := by decide +kernel
theorem d_M_isName_93 : decode b_M_isName 93 = .ok (.iaload, 1) := by decide +kernel
theorem d_M_isName_94 : decode b_M_isName 94 = .ok (.bipush 45, 2) := by decide +kernel
theorem d_M_isName_96 : decode b_M_isName 96 = .ok (.if_icmp .eq 7, 3) := by decide +kernel
theorem d_M_isName_99 : decode b_M_isName 99 = .ok (.iconst 1, 1) := by decide +kernel
theorem d_M_isName_100 : decode b_M_isName 100 = .ok (.goto 4, 3) := by decide +kernel
theorem d_M_isName_103 : decode b_M_isName 103 = .ok (.iconst 0, 1) := by decide +kernel
theorem d_M_isName_104 : decode b_M_isName 104 = .ok (.istore_n 3, 1) := by decide +kernel
theorem d_M_isName_105 : decode b_M_isName 105 = .ok (.iinc 4 1, 3) := by decide +kernel
theorem d_M_isName_108 : decode b_M_isName 108 = .ok (.goto (-58), 3) := by decide +kernel
theorem d_M_isName_111 : decode b_M_isName 111 = .ok (.iload_n 3, 1) := by decide +kernel
theorem d_M_isName_112 : decode b_M_isName 112 = .ok (.ireturn, 1) := by decide +kernel

abbrev b_M_takes : ByteArray := prog_9_method_7_code
def y_M_takes : MethodName := ⟨"RegistryLogModel", "takes", "(Z)Z"⟩
theorem d_M_takes_0 : decode b_M_takes 0 = .ok (.aload_n 0, 1) := by decide +kernel
theorem d_M_takes_1 : decode b_M_takes 1 = .ok (.getfield 112, 3) := by decide +kernel
theorem d_M_takes_4 : decode b_M_takes 4 = .ok (.istore_n 2, 1) := by decide +kernel
theorem d_M_takes_5 : decode b_M_takes 5 = .ok (.aload_n 0, 1) := by decide +kernel
theorem d_M_takes_6 : decode b_M_takes 6 = .ok (.iconst 0, 1) := by decide +kernel
theorem d_M_takes_7 : decode b_M_takes 7 = .ok (.putfield 112, 3) := by decide +kernel
theorem d_M_takes_10 : decode b_M_takes 10 = .ok (.iload_n 2, 1) := by decide +kernel
theorem d_M_takes_11 : decode b_M_takes 11 = .ok (.istore_n 3, 1) := by decide +kernel
theorem d_M_takes_12 : decode b_M_takes 12 = .ok (.iload_n 2, 1) := by decide +kernel
theorem d_M_takes_13 : decode b_M_takes 13 = .ok (.iconst 1, 1) := by decide +kernel
theorem d_M_takes_14 : decode b_M_takes 14 = .ok (.isub, 1) := by decide +kernel
theorem d_M_takes_15 : decode b_M_takes 15 = .ok (.istore 4, 2) := by decide +kernel
theorem d_M_takes_17 : decode b_M_takes 17 = .ok (.iload 4, 2) := by decide +kernel
theorem d_M_takes_19 : decode b_M_takes 19 = .ok (.ifCond .lt 32, 3) := by decide +kernel
theorem d_M_takes_22 : decode b_M_takes 22 = .ok (.iload_n 1, 1) := by decide +kernel
theorem d_M_takes_23 : decode b_M_takes 23 = .ok (.ifCond .eq 28, 3) := by decide +kernel
theorem d_M_takes_26 : decode b_M_takes 26 = .ok (.aload_n 0, 1) := by decide +kernel
theorem d_M_takes_27 : decode b_M_takes 27 = .ok (.getfield 7, 3) := by decide +kernel
theorem d_M_takes_30 : decode b_M_takes 30 = .ok (.iload 4, 2) := by decide +kernel
theorem d_M_takes_32 : decode b_M_takes 32 = .ok (.iaload, 1) := by decide +kernel
theorem d_M_takes_33 : decode b_M_takes 33 = .ok (.bipush 62, 2) := by decide +kernel
theorem d_M_takes_35 : decode b_M_takes 35 = .ok (.if_icmp .ne 8, 3) := by decide +kernel
theorem d_M_takes_38 : decode b_M_takes 38 = .ok (.iload 4, 2) := by decide +kernel
theorem d_M_takes_40 : decode b_M_takes 40 = .ok (.goto 4, 3) := by decide +kernel
theorem d_M_takes_43 : decode b_M_takes 43 = .ok (.iload_n 3, 1) := by decide +kernel
theorem d_M_takes_44 : decode b_M_takes 44 = .ok (.istore_n 3, 1) := by decide +kernel
theorem d_M_takes_45 : decode b_M_takes 45 = .ok (.iinc 4 (-1), 3) := by decide +kernel
theorem d_M_takes_48 : decode b_M_takes 48 = .ok (.goto (-31), 3) := by decide +kernel
theorem d_M_takes_51 : decode b_M_takes 51 = .ok (.iload_n 1, 1) := by decide +kernel
theorem d_M_takes_52 : decode b_M_takes 52 = .ok (.ifCond .eq 8, 3) := by decide +kernel
theorem d_M_takes_55 : decode b_M_takes 55 = .ok (.iload_n 3, 1) := by decide +kernel
theorem d_M_takes_56 : decode b_M_takes 56 = .ok (.iload_n 2, 1) := by decide +kernel
theorem d_M_takes_57 : decode b_M_takes 57 = .ok (.if_icmp .eq 27, 3) := by decide +kernel
theorem d_M_takes_60 : decode b_M_takes 60 = .ok (.aload_n 0, 1) := by decide +kernel
theorem d_M_takes_61 : decode b_M_takes 61 = .ok (.iconst 0, 1) := by decide +kernel
theorem d_M_takes_62 : decode b_M_takes 62 = .ok (.iload_n 3, 1) := by decide +kernel
theorem d_M_takes_63 : decode b_M_takes 63 = .ok (.invokevirtual 119, 3) := by decide +kernel
theorem d_M_takes_66 : decode b_M_takes 66 = .ok (.ifCond .eq 18, 3) := by decide +kernel
theorem d_M_takes_69 : decode b_M_takes 69 = .ok (.iload_n 1, 1) := by decide +kernel
theorem d_M_takes_70 : decode b_M_takes 70 = .ok (.ifCond .eq 16, 3) := by decide +kernel
theorem d_M_takes_73 : decode b_M_takes 73 = .ok (.aload_n 0, 1) := by decide +kernel
theorem d_M_takes_74 : decode b_M_takes 74 = .ok (.iload_n 3, 1) := by decide +kernel
theorem d_M_takes_75 : decode b_M_takes 75 = .ok (.iconst 1, 1) := by decide +kernel
theorem d_M_takes_76 : decode b_M_takes 76 = .ok (.iadd, 1) := by decide +kernel
theorem d_M_takes_77 : decode b_M_takes 77 = .ok (.iload_n 2, 1) := by decide +kernel
theorem d_M_takes_78 : decode b_M_takes 78 = .ok (.invokevirtual 119, 3) := by decide +kernel
theorem d_M_takes_81 : decode b_M_takes 81 = .ok (.ifCond .ne 5, 3) := by decide +kernel
theorem d_M_takes_84 : decode b_M_takes 84 = .ok (.iconst 0, 1) := by decide +kernel
theorem d_M_takes_85 : decode b_M_takes 85 = .ok (.ireturn, 1) := by decide +kernel
theorem d_M_takes_86 : decode b_M_takes 86 = .ok (.aload_n 0, 1) := by decide +kernel
theorem d_M_takes_87 : decode b_M_takes 87 = .ok (.iload_n 3, 1) := by decide +kernel
theorem d_M_takes_88 : decode b_M_takes 88 = .ok (.putfield 123, 3) := by decide +kernel
theorem d_M_takes_91 : decode b_M_takes 91 = .ok (.iconst 0, 1) := by decide +kernel
theorem d_M_takes_92 : decode b_M_takes 92 = .ok (.istore 4, 2) := by decide +kernel
theorem d_M_takes_94 : decode b_M_takes 94 = .ok (.iload 4, 2) := by decide +kernel
theorem d_M_takes_96 : decode b_M_takes 96 = .ok (.iload_n 3, 1) := by decide +kernel
theorem d_M_takes_97 : decode b_M_takes 97 = .ok (.if_icmp .ge 23, 3) := by decide +kernel
theorem d_M_takes_100 : decode b_M_takes 100 = .ok (.aload_n 0, 1) := by decide +kernel
theorem d_M_takes_101 : decode b_M_takes 101 = .ok (.getfield 80, 3) := by decide +kernel
theorem d_M_takes_104 : decode b_M_takes 104 = .ok (.iload 4, 2) := by decide +kernel
theorem d_M_takes_106 : decode b_M_takes 106 = .ok (.aload_n 0, 1) := by decide +kernel
theorem d_M_takes_107 : decode b_M_takes 107 = .ok (.getfield 7, 3) := by decide +kernel
theorem d_M_takes_110 : decode b_M_takes 110 = .ok (.iload 4, 2) := by decide +kernel
theorem d_M_takes_112 : decode b_M_takes 112 = .ok (.iaload, 1) := by decide +kernel
theorem d_M_takes_113 : decode b_M_takes 113 = .ok (.iastore, 1) := by decide +kernel
theorem d_M_takes_114 : decode b_M_takes 114 = .ok (.iinc 4 1, 3) := by decide +kernel
theorem d_M_takes_117 : decode b_M_takes 117 = .ok (.goto (-23), 3) := by decide +kernel
theorem d_M_takes_120 : decode b_M_takes 120 = .ok (.aload_n 0, 1) := by decide +kernel
theorem d_M_takes_121 : decode b_M_takes 121 = .ok (.iload_n 1, 1) := by decide +kernel
theorem d_M_takes_122 : decode b_M_takes 122 = .ok (.ifCond .eq 11, 3) := by decide +kernel
theorem d_M_takes_125 : decode b_M_takes 125 = .ok (.iload_n 2, 1) := by decide +kernel
theorem d_M_takes_126 : decode b_M_takes 126 = .ok (.iload_n 3, 1) := by decide +kernel
theorem d_M_takes_127 : decode b_M_takes 127 = .ok (.isub, 1) := by decide +kernel
theorem d_M_takes_128 : decode b_M_takes 128 = .ok (.iconst 1, 1) := by decide +kernel
theorem d_M_takes_129 : decode b_M_takes 129 = .ok (.isub, 1) := by decide +kernel
theorem d_M_takes_130 : decode b_M_takes 130 = .ok (.goto 4, 3) := by decide +kernel
theorem d_M_takes_133 : decode b_M_takes 133 = .ok (.iconst 0, 1) := by decide +kernel
theorem d_M_takes_134 : decode b_M_takes 134 = .ok (.putfield 126, 3) := by decide +kernel
theorem d_M_takes_137 : decode b_M_takes 137 = .ok (.iconst 0, 1) := by decide +kernel
theorem d_M_takes_138 : decode b_M_takes 138 = .ok (.istore 4, 2) := by decide +kernel
theorem d_M_takes_140 : decode b_M_takes 140 = .ok (.iload 4, 2) := by decide +kernel
theorem d_M_takes_142 : decode b_M_takes 142 = .ok (.aload_n 0, 1) := by decide +kernel
theorem d_M_takes_143 : decode b_M_takes 143 = .ok (.getfield 126, 3) := by decide +kernel
theorem d_M_takes_146 : decode b_M_takes 146 = .ok (.if_icmp .ge 27, 3) := by decide +kernel
theorem d_M_takes_149 : decode b_M_takes 149 = .ok (.aload_n 0, 1) := by decide +kernel
theorem d_M_takes_150 : decode b_M_takes 150 = .ok (.getfield 83, 3) := by decide +kernel
theorem d_M_takes_153 : decode b_M_takes 153 = .ok (.iload 4, 2) := by decide +kernel
theorem d_M_takes_155 : decode b_M_takes 155 = .ok (.aload_n 0, 1) := by decide +kernel
theorem d_M_takes_156 : decode b_M_takes 156 = .ok (.getfield 7, 3) := by decide +kernel
theorem d_M_takes_159 : decode b_M_takes 159 = .ok (.iload_n 3, 1) := by decide +kernel
theorem d_M_takes_160 : decode b_M_takes 160 = .ok (.iconst 1, 1) := by decide +kernel
theorem d_M_takes_161 : decode b_M_takes 161 = .ok (.iadd, 1) := by decide +kernel
theorem d_M_takes_162 : decode b_M_takes 162 = .ok (.iload 4, 2) := by decide +kernel
theorem d_M_takes_164 : decode b_M_takes 164 = .ok (.iadd, 1) := by decide +kernel
theorem d_M_takes_165 : decode b_M_takes 165 = .ok (.iaload, 1) := by decide +kernel
theorem d_M_takes_166 : decode b_M_takes 166 = .ok (.iastore, 1) := by decide +kernel
theorem d_M_takes_167 : decode b_M_takes 167 = .ok (.iinc 4 1, 3) := by decide +kernel
theorem d_M_takes_170 : decode b_M_takes 170 = .ok (.goto (-30), 3) := by decide +kernel
theorem d_M_takes_173 : decode b_M_takes 173 = .ok (.iconst 1, 1) := by decide +kernel
theorem d_M_takes_174 : decode b_M_takes 174 = .ok (.ireturn, 1) := by decide +kernel

abbrev b_M_fold : ByteArray := prog_9_method_8_code
def y_M_fold : MethodName := ⟨"RegistryLogModel", "fold", "([III[I)I"⟩
theorem d_M_fold_0 : decode b_M_fold 0 = .ok (.iconst 0, 1) := by decide +kernel
theorem d_M_fold_1 : decode b_M_fold 1 = .ok (.istore 4, 2) := by decide +kernel
theorem d_M_fold_3 : decode b_M_fold 3 = .ok (.iconst 0, 1) := by decide +kernel
theorem d_M_fold_4 : decode b_M_fold 4 = .ok (.istore 5, 2) := by decide +kernel
theorem d_M_fold_6 : decode b_M_fold 6 = .ok (.iload 5, 2) := by decide +kernel
theorem d_M_fold_8 : decode b_M_fold 8 = .ok (.iload_n 2, 1) := by decide +kernel
theorem d_M_fold_9 : decode b_M_fold 9 = .ok (.if_icmp .ge 50, 3) := by decide +kernel
theorem d_M_fold_12 : decode b_M_fold 12 = .ok (.aload_n 3, 1) := by decide +kernel
theorem d_M_fold_13 : decode b_M_fold 13 = .ok (.iload 4, 2) := by decide +kernel
theorem d_M_fold_15 : decode b_M_fold 15 = .ok (.aload_n 0, 1) := by decide +kernel
theorem d_M_fold_16 : decode b_M_fold 16 = .ok (.iload_n 1, 1) := by decide +kernel
theorem d_M_fold_17 : decode b_M_fold 17 = .ok (.iload 5, 2) := by decide +kernel
theorem d_M_fold_19 : decode b_M_fold 19 = .ok (.iadd, 1) := by decide +kernel
theorem d_M_fold_20 : decode b_M_fold 20 = .ok (.iaload, 1) := by decide +kernel
theorem d_M_fold_21 : decode b_M_fold 21 = .ok (.iastore, 1) := by decide +kernel
theorem d_M_fold_22 : decode b_M_fold 22 = .ok (.iload 4, 2) := by decide +kernel
theorem d_M_fold_24 : decode b_M_fold 24 = .ok (.aload_n 0, 1) := by decide +kernel
theorem d_M_fold_25 : decode b_M_fold 25 = .ok (.iload_n 1, 1) := by decide +kernel
theorem d_M_fold_26 : decode b_M_fold 26 = .ok (.iload 5, 2) := by decide +kernel
theorem d_M_fold_28 : decode b_M_fold 28 = .ok (.iadd, 1) := by decide +kernel
theorem d_M_fold_29 : decode b_M_fold 29 = .ok (.iaload, 1) := by decide +kernel
theorem d_M_fold_30 : decode b_M_fold 30 = .ok (.bipush 45, 2) := by decide +kernel
theorem d_M_fold_32 : decode b_M_fold 32 = .ok (.if_icmp .ne 7, 3) := by decide +kernel
theorem d_M_fold_35 : decode b_M_fold 35 = .ok (.iconst 0, 1) := by decide +kernel
theorem d_M_fold_36 : decode b_M_fold 36 = .ok (.goto 4, 3) := by decide +kernel
theorem d_M_fold_39 : decode b_M_fold 39 = .ok (.iconst 1, 1) := by decide +kernel
theorem d_M_fold_40 : decode b_M_fold 40 = .ok (.iadd, 1) := by decide +kernel
theorem d_M_fold_41 : decode b_M_fold 41 = .ok (.istore 4, 2) := by decide +kernel
theorem d_M_fold_43 : decode b_M_fold 43 = .ok (.iload 4, 2) := by decide +kernel
theorem d_M_fold_45 : decode b_M_fold 45 = .ok (.aload_n 3, 1) := by decide +kernel
theorem d_M_fold_46 : decode b_M_fold 46 = .ok (.arraylength, 1) := by decide +kernel
theorem d_M_fold_47 : decode b_M_fold 47 = .ok (.if_icmp .ne 6, 3) := by decide +kernel
theorem d_M_fold_50 : decode b_M_fold 50 = .ok (.iload 4, 2) := by decide +kernel
theorem d_M_fold_52 : decode b_M_fold 52 = .ok (.ireturn, 1) := by decide +kernel
theorem d_M_fold_53 : decode b_M_fold 53 = .ok (.iinc 5 1, 3) := by decide +kernel
theorem d_M_fold_56 : decode b_M_fold 56 = .ok (.goto (-50), 3) := by decide +kernel
theorem d_M_fold_59 : decode b_M_fold 59 = .ok (.iload 4, 2) := by decide +kernel
theorem d_M_fold_61 : decode b_M_fold 61 = .ok (.ireturn, 1) := by decide +kernel

abbrev b_M_isNear : ByteArray := prog_9_method_9_code
def y_M_isNear : MethodName := ⟨"RegistryLogModel", "isNear", "([III)Z"⟩
theorem d_M_isNear_0 : decode b_M_isNear 0 = .ok (.aload_n 1, 1) := by decide +kernel
theorem d_M_isNear_1 : decode b_M_isNear 1 = .ok (.iconst 0, 1) := by decide +kernel
theorem d_M_isNear_2 : decode b_M_isNear 2 = .ok (.iload_n 2, 1) := by decide +kernel
theorem d_M_isNear_3 : decode b_M_isNear 3 = .ok (.aload_n 0, 1) := by decide +kernel
theorem d_M_isNear_4 : decode b_M_isNear 4 = .ok (.getfield 86, 3) := by decide +kernel
theorem d_M_isNear_7 : decode b_M_isNear 7 = .ok (.invokestatic 129, 3) := by decide +kernel
theorem d_M_isNear_10 : decode b_M_isNear 10 = .ok (.istore 4, 2) := by decide +kernel
theorem d_M_isNear_12 : decode b_M_isNear 12 = .ok (.aload_n 0, 1) := by decide +kernel
theorem d_M_isNear_13 : decode b_M_isNear 13 = .ok (.getfield 50, 3) := by decide +kernel
theorem d_M_isNear_16 : decode b_M_isNear 16 = .ok (.bipush 10, 2) := by decide +kernel
theorem d_M_isNear_18 : decode b_M_isNear 18 = .ok (.iload_n 3, 1) := by decide +kernel
theorem d_M_isNear_19 : decode b_M_isNear 19 = .ok (.imul, 1) := by decide +kernel
theorem d_M_isNear_20 : decode b_M_isNear 20 = .ok (.aload_n 0, 1) := by decide +kernel
theorem d_M_isNear_21 : decode b_M_isNear 21 = .ok (.getfield 53, 3) := by decide +kernel
theorem d_M_isNear_24 : decode b_M_isNear 24 = .ok (.iload_n 3, 1) := by decide +kernel
theorem d_M_isNear_25 : decode b_M_isNear 25 = .ok (.iaload, 1) := by decide +kernel
theorem d_M_isNear_26 : decode b_M_isNear 26 = .ok (.aload_n 0, 1) := by decide +kernel
theorem d_M_isNear_27 : decode b_M_isNear 27 = .ok (.getfield 89, 3) := by decide +kernel
theorem d_M_isNear_30 : decode b_M_isNear 30 = .ok (.invokestatic 129, 3) := by decide +kernel
theorem d_M_isNear_33 : decode b_M_isNear 33 = .ok (.istore 5, 2) := by decide +kernel
theorem d_M_isNear_35 : decode b_M_isNear 35 = .ok (.iconst 0, 1) := by decide +kernel
theorem d_M_isNear_36 : decode b_M_isNear 36 = .ok (.istore 6, 2) := by decide +kernel
theorem d_M_isNear_38 : decode b_M_isNear 38 = .ok (.iload 6, 2) := by decide +kernel
theorem d_M_isNear_40 : decode b_M_isNear 40 = .ok (.iload 4, 2) := by decide +kernel
theorem d_M_isNear_42 : decode b_M_isNear 42 = .ok (.if_icmp .ge 33, 3) := by decide +kernel
theorem d_M_isNear_45 : decode b_M_isNear 45 = .ok (.iload 6, 2) := by decide +kernel
theorem d_M_isNear_47 : decode b_M_isNear 47 = .ok (.iload 5, 2) := by decide +kernel
theorem d_M_isNear_49 : decode b_M_isNear 49 = .ok (.if_icmp .ge 26, 3) := by decide +kernel
theorem d_M_isNear_52 : decode b_M_isNear 52 = .ok (.aload_n 0, 1) := by decide +kernel
theorem d_M_isNear_53 : decode b_M_isNear 53 = .ok (.getfield 86, 3) := by decide +kernel
theorem d_M_isNear_56 : decode b_M_isNear 56 = .ok (.iload 6, 2) := by decide +kernel
theorem d_M_isNear_58 : decode b_M_isNear 58 = .ok (.iaload, 1) := by decide +kernel
theorem d_M_isNear_59 : decode b_M_isNear 59 = .ok (.aload_n 0, 1) := by decide +kernel
theorem d_M_isNear_60 : decode b_M_isNear 60 = .ok (.getfield 89, 3) := by decide +kernel
theorem d_M_isNear_63 : decode b_M_isNear 63 = .ok (.iload 6, 2) := by decide +kernel
theorem d_M_isNear_65 : decode b_M_isNear 65 = .ok (.iaload, 1) := by decide +kernel
theorem d_M_isNear_66 : decode b_M_isNear 66 = .ok (.if_icmp .ne 9, 3) := by decide +kernel
theorem d_M_isNear_69 : decode b_M_isNear 69 = .ok (.iinc 6 1, 3) := by decide +kernel
theorem d_M_isNear_72 : decode b_M_isNear 72 = .ok (.goto (-34), 3) := by decide +kernel
theorem d_M_isNear_75 : decode b_M_isNear 75 = .ok (.iconst 0, 1) := by decide +kernel
theorem d_M_isNear_76 : decode b_M_isNear 76 = .ok (.istore 7, 2) := by decide +kernel
theorem d_M_isNear_78 : decode b_M_isNear 78 = .ok (.iload 7, 2) := by decide +kernel
theorem d_M_isNear_80 : decode b_M_isNear 80 = .ok (.iload 4, 2) := by decide +kernel
theorem d_M_isNear_82 : decode b_M_isNear 82 = .ok (.iload 6, 2) := by decide +kernel
theorem d_M_isNear_84 : decode b_M_isNear 84 = .ok (.isub, 1) := by decide +kernel
theorem d_M_isNear_85 : decode b_M_isNear 85 = .ok (.if_icmp .ge 46, 3) := by decide +kernel
theorem d_M_isNear_88 : decode b_M_isNear 88 = .ok (.iload 7, 2) := by decide +kernel
theorem d_M_isNear_90 : decode b_M_isNear 90 = .ok (.iload 5, 2) := by decide +kernel
theorem d_M_isNear_92 : decode b_M_isNear 92 = .ok (.iload 6, 2) := by decide +kernel
theorem d_M_isNear_94 : decode b_M_isNear 94 = .ok (.isub, 1) := by decide +kernel
theorem d_M_isNear_95 : decode b_M_isNear 95 = .ok (.if_icmp .ge 36, 3) := by decide +kernel
theorem d_M_isNear_98 : decode b_M_isNear 98 = .ok (.aload_n 0, 1) := by decide +kernel
theorem d_M_isNear_99 : decode b_M_isNear 99 = .ok (.getfield 86, 3) := by decide +kernel
theorem d_M_isNear_102 : decode b_M_isNear 102 = .ok (.iload 4, 2) := by decide +kernel
theorem d_M_isNear_104 : decode b_M_isNear 104 = .ok (.iconst 1, 1) := by decide +kernel
theorem d_M_isNear_105 : decode b_M_isNear 105 = .ok (.isub, 1) := by decide +kernel
theorem d_M_isNear_106 : decode b_M_isNear 106 = .ok (.iload 7, 2) := by decide +kernel
theorem d_M_isNear_108 : decode b_M_isNear 108 = .ok (.isub, 1) := by decide +kernel
theorem d_M_isNear_109 : decode b_M_isNear 109 = .ok (.iaload, 1) := by decide +kernel
theorem d_M_isNear_110 : decode b_M_isNear 110 = .ok (.aload_n 0, 1) := by decide +kernel
theorem d_M_isNear_111 : decode b_M_isNear 111 = .ok (.getfield 89, 3) := by decide +kernel
theorem d_M_isNear_114 : decode b_M_isNear 114 = .ok (.iload 5, 2) := by decide +kernel
theorem d_M_isNear_116 : decode b_M_isNear 116 = .ok (.iconst 1, 1) := by decide +kernel
theorem d_M_isNear_117 : decode b_M_isNear 117 = .ok (.isub, 1) := by decide +kernel
theorem d_M_isNear_118 : decode b_M_isNear 118 = .ok (.iload 7, 2) := by decide +kernel
theorem d_M_isNear_120 : decode b_M_isNear 120 = .ok (.isub, 1) := by decide +kernel
theorem d_M_isNear_121 : decode b_M_isNear 121 = .ok (.iaload, 1) := by decide +kernel
theorem d_M_isNear_122 : decode b_M_isNear 122 = .ok (.if_icmp .ne 9, 3) := by decide +kernel
theorem d_M_isNear_125 : decode b_M_isNear 125 = .ok (.iinc 7 1, 3) := by decide +kernel
theorem d_M_isNear_128 : decode b_M_isNear 128 = .ok (.goto (-50), 3) := by decide +kernel
theorem d_M_isNear_131 : decode b_M_isNear 131 = .ok (.iload 4, 2) := by decide +kernel
theorem d_M_isNear_133 : decode b_M_isNear 133 = .ok (.iload 6, 2) := by decide +kernel
theorem d_M_isNear_135 : decode b_M_isNear 135 = .ok (.isub, 1) := by decide +kernel
theorem d_M_isNear_136 : decode b_M_isNear 136 = .ok (.iload 7, 2) := by decide +kernel
theorem d_M_isNear_138 : decode b_M_isNear 138 = .ok (.isub, 1) := by decide +kernel
theorem d_M_isNear_139 : decode b_M_isNear 139 = .ok (.iconst 1, 1) := by decide +kernel
theorem d_M_isNear_140 : decode b_M_isNear 140 = .ok (.if_icmp .gt 19, 3) := by decide +kernel
theorem d_M_isNear_143 : decode b_M_isNear 143 = .ok (.iload 5, 2) := by decide +kernel
theorem d_M_isNear_145 : decode b_M_isNear 145 = .ok (.iload 6, 2) := by decide +kernel
theorem d_M_isNear_147 : decode b_M_isNear 147 = .ok (.isub, 1) := by decide +kernel
theorem d_M_isNear_148 : decode b_M_isNear 148 = .ok (.iload 7, 2) := by decide +kernel
theorem d_M_isNear_150 : decode b_M_isNear 150 = .ok (.isub, 1) := by decide +kernel
theorem d_M_isNear_151 : decode b_M_isNear 151 = .ok (.iconst 1, 1) := by decide +kernel
theorem d_M_isNear_152 : decode b_M_isNear 152 = .ok (.if_icmp .gt 7, 3) := by decide +kernel
theorem d_M_isNear_155 : decode b_M_isNear 155 = .ok (.iconst 1, 1) := by decide +kernel
theorem d_M_isNear_156 : decode b_M_isNear 156 = .ok (.goto 4, 3) := by decide +kernel
theorem d_M_isNear_159 : decode b_M_isNear 159 = .ok (.iconst 0, 1) := by decide +kernel
theorem d_M_isNear_160 : decode b_M_isNear 160 = .ok (.ireturn, 1) := by decide +kernel

abbrev b_M_met : ByteArray := prog_9_method_10_code
def y_M_met : MethodName := ⟨"RegistryLogModel", "met", "([III)I"⟩
theorem d_M_met_0 : decode b_M_met 0 = .ok (.iconst (-1), 1) := by decide +kernel
theorem d_M_met_1 : decode b_M_met 1 = .ok (.istore 4, 2) := by decide +kernel
theorem d_M_met_3 : decode b_M_met 3 = .ok (.iconst 0, 1) := by decide +kernel
theorem d_M_met_4 : decode b_M_met 4 = .ok (.istore 5, 2) := by decide +kernel
theorem d_M_met_6 : decode b_M_met 6 = .ok (.iload 5, 2) := by decide +kernel
theorem d_M_met_8 : decode b_M_met 8 = .ok (.aload_n 0, 1) := by decide +kernel
theorem d_M_met_9 : decode b_M_met 9 = .ok (.getfield 133, 3) := by decide +kernel
theorem d_M_met_12 : decode b_M_met 12 = .ok (.if_icmp .ge 90, 3) := by decide +kernel
theorem d_M_met_15 : decode b_M_met 15 = .ok (.aload_n 0, 1) := by decide +kernel
theorem d_M_met_16 : decode b_M_met 16 = .ok (.getfield 53, 3) := by decide +kernel
theorem d_M_met_19 : decode b_M_met 19 = .ok (.iload 5, 2) := by decide +kernel
theorem d_M_met_21 : decode b_M_met 21 = .ok (.iaload, 1) := by decide +kernel
theorem d_M_met_22 : decode b_M_met 22 = .ok (.iload_n 3, 1) := by decide +kernel
theorem d_M_met_23 : decode b_M_met 23 = .ok (.if_icmp .ne 7, 3) := by decide +kernel
theorem d_M_met_26 : decode b_M_met 26 = .ok (.iconst 1, 1) := by decide +kernel
theorem d_M_met_27 : decode b_M_met 27 = .ok (.goto 4, 3) := by decide +kernel
theorem d_M_met_30 : decode b_M_met 30 = .ok (.iconst 0, 1) := by decide +kernel
theorem d_M_met_31 : decode b_M_met 31 = .ok (.istore 6, 2) := by decide +kernel
theorem d_M_met_33 : decode b_M_met 33 = .ok (.iconst 0, 1) := by decide +kernel
theorem d_M_met_34 : decode b_M_met 34 = .ok (.istore 7, 2) := by decide +kernel
theorem d_M_met_36 : decode b_M_met 36 = .ok (.iload 7, 2) := by decide +kernel
theorem d_M_met_38 : decode b_M_met 38 = .ok (.iload_n 3, 1) := by decide +kernel
theorem d_M_met_39 : decode b_M_met 39 = .ok (.if_icmp .ge 43, 3) := by decide +kernel
theorem d_M_met_42 : decode b_M_met 42 = .ok (.iload 6, 2) := by decide +kernel
theorem d_M_met_44 : decode b_M_met 44 = .ok (.ifCond .eq 38, 3) := by decide +kernel
theorem d_M_met_47 : decode b_M_met 47 = .ok (.aload_n 0, 1) := by decide +kernel
theorem d_M_met_48 : decode b_M_met 48 = .ok (.getfield 50, 3) := by decide +kernel
theorem d_M_met_51 : decode b_M_met 51 = .ok (.bipush 10, 2) := by decide +kernel
theorem d_M_met_53 : decode b_M_met 53 = .ok (.iload 5, 2) := by decide +kernel
theorem d_M_met_55 : decode b_M_met 55 = .ok (.imul, 1) := by decide +kernel
theorem d_M_met_56 : decode b_M_met 56 = .ok (.iload 7, 2) := by decide +kernel
theorem d_M_met_58 : decode b_M_met 58 = .ok (.iadd, 1) := by decide +kernel
theorem d_M_met_59 : decode b_M_met 59 = .ok (.iaload, 1) := by decide +kernel
theorem d_M_met_60 : decode b_M_met 60 = .ok (.aload_n 1, 1) := by decide +kernel
theorem d_M_met_61 : decode b_M_met 61 = .ok (.iload_n 2, 1) := by decide +kernel
theorem d_M_met_62 : decode b_M_met 62 = .ok (.iload 7, 2) := by decide +kernel
theorem d_M_met_64 : decode b_M_met 64 = .ok (.iadd, 1) := by decide +kernel
theorem d_M_met_65 : decode b_M_met 65 = .ok (.iaload, 1) := by decide +kernel
theorem d_M_met_66 : decode b_M_met 66 = .ok (.if_icmp .ne 7, 3) := by decide +kernel
theorem d_M_met_69 : decode b_M_met 69 = .ok (.iconst 1, 1) := by decide +kernel
theorem d_M_met_70 : decode b_M_met 70 = .ok (.goto 4, 3) := by decide +kernel
theorem d_M_met_73 : decode b_M_met 73 = .ok (.iconst 0, 1) := by decide +kernel
theorem d_M_met_74 : decode b_M_met 74 = .ok (.istore 6, 2) := by decide +kernel
theorem d_M_met_76 : decode b_M_met 76 = .ok (.iinc 7 1, 3) := by decide +kernel
theorem d_M_met_79 : decode b_M_met 79 = .ok (.goto (-43), 3) := by decide +kernel
theorem d_M_met_82 : decode b_M_met 82 = .ok (.iload 6, 2) := by decide +kernel
theorem d_M_met_84 : decode b_M_met 84 = .ok (.ifCond .eq 8, 3) := by decide +kernel
theorem d_M_met_87 : decode b_M_met 87 = .ok (.iload 5, 2) := by decide +kernel
theorem d_M_met_89 : decode b_M_met 89 = .ok (.goto 5, 3) := by decide +kernel
theorem d_M_met_92 : decode b_M_met 92 = .ok (.iload 4, 2) := by decide +kernel
theorem d_M_met_94 : decode b_M_met 94 = .ok (.istore 4, 2) := by decide +kernel
theorem d_M_met_96 : decode b_M_met 96 = .ok (.iinc 5 1, 3) := by decide +kernel
theorem d_M_met_99 : decode b_M_met 99 = .ok (.goto (-93), 3) := by decide +kernel
theorem d_M_met_102 : decode b_M_met 102 = .ok (.iload 4, 2) := by decide +kernel
theorem d_M_met_104 : decode b_M_met 104 = .ok (.ireturn, 1) := by decide +kernel

abbrev b_M_meet : ByteArray := prog_9_method_11_code
def y_M_meet : MethodName := ⟨"RegistryLogModel", "meet", "([IIII)I"⟩
theorem d_M_meet_0 : decode b_M_meet 0 = .ok (.aload_n 0, 1) := by decide +kernel
theorem d_M_meet_1 : decode b_M_meet 1 = .ok (.getfield 53, 3) := by decide +kernel
theorem d_M_meet_4 : decode b_M_meet 4 = .ok (.aload_n 0, 1) := by decide +kernel
theorem d_M_meet_5 : decode b_M_meet 5 = .ok (.getfield 133, 3) := by decide +kernel
theorem d_M_meet_8 : decode b_M_meet 8 = .ok (.iload_n 3, 1) := by decide +kernel
theorem d_M_meet_9 : decode b_M_meet 9 = .ok (.iastore, 1) := by decide +kernel
theorem d_M_meet_10 : decode b_M_meet 10 = .ok (.iconst 0, 1) := by decide +kernel
theorem d_M_meet_11 : decode b_M_meet 11 = .ok (.istore 5, 2) := by decide +kernel
theorem d_M_meet_13 : decode b_M_meet 13 = .ok (.iload 5, 2) := by decide +kernel
theorem d_M_meet_15 : decode b_M_meet 15 = .ok (.iload_n 3, 1) := by decide +kernel
theorem d_M_meet_16 : decode b_M_meet 16 = .ok (.if_icmp .ge 30, 3) := by decide +kernel
theorem d_M_meet_19 : decode b_M_meet 19 = .ok (.aload_n 0, 1) := by decide +kernel
theorem d_M_meet_20 : decode b_M_meet 20 = .ok (.getfield 50, 3) := by decide +kernel
theorem d_M_meet_23 : decode b_M_meet 23 = .ok (.bipush 10, 2) := by decide +kernel
theorem d_M_meet_25 : decode b_M_meet 25 = .ok (.aload_n 0, 1) := by decide +kernel
theorem d_M_meet_26 : decode b_M_meet 26 = .ok (.getfield 133, 3) := by decide +kernel
theorem d_M_meet_29 : decode b_M_meet 29 = .ok (.imul, 1) := by decide +kernel
theorem d_M_meet_30 : decode b_M_meet 30 = .ok (.iload 5, 2) := by decide +kernel
theorem d_M_meet_32 : decode b_M_meet 32 = .ok (.iadd, 1) := by decide +kernel
theorem d_M_meet_33 : decode b_M_meet 33 = .ok (.aload_n 1, 1) := by decide +kernel
theorem d_M_meet_34 : decode b_M_meet 34 = .ok (.iload_n 2, 1) := by decide +kernel
theorem d_M_meet_35 : decode b_M_meet 35 = .ok (.iload 5, 2) := by decide +kernel
theorem d_M_meet_37 : decode b_M_meet 37 = .ok (.iadd, 1) := by decide +kernel
theorem d_M_meet_38 : decode b_M_meet 38 = .ok (.iaload, 1) := by decide +kernel
theorem d_M_meet_39 : decode b_M_meet 39 = .ok (.iastore, 1) := by decide +kernel
theorem d_M_meet_40 : decode b_M_meet 40 = .ok (.iinc 5 1, 3) := by decide +kernel
theorem d_M_meet_43 : decode b_M_meet 43 = .ok (.goto (-30), 3) := by decide +kernel
theorem d_M_meet_46 : decode b_M_meet 46 = .ok (.aload_n 0, 1) := by decide +kernel
theorem d_M_meet_47 : decode b_M_meet 47 = .ok (.getfield 56, 3) := by decide +kernel
theorem d_M_meet_50 : decode b_M_meet 50 = .ok (.aload_n 0, 1) := by decide +kernel
theorem d_M_meet_51 : decode b_M_meet 51 = .ok (.getfield 133, 3) := by decide +kernel
theorem d_M_meet_54 : decode b_M_meet 54 = .ok (.iconst 1, 1) := by decide +kernel
theorem d_M_meet_55 : decode b_M_meet 55 = .ok (.iastore, 1) := by decide +kernel
theorem d_M_meet_56 : decode b_M_meet 56 = .ok (.aload_n 0, 1) := by decide +kernel
theorem d_M_meet_57 : decode b_M_meet 57 = .ok (.getfield 59, 3) := by decide +kernel
theorem d_M_meet_60 : decode b_M_meet 60 = .ok (.aload_n 0, 1) := by decide +kernel
theorem d_M_meet_61 : decode b_M_meet 61 = .ok (.getfield 133, 3) := by decide +kernel
theorem d_M_meet_64 : decode b_M_meet 64 = .ok (.iload 4, 2) := by decide +kernel
theorem d_M_meet_66 : decode b_M_meet 66 = .ok (.iastore, 1) := by decide +kernel
theorem d_M_meet_67 : decode b_M_meet 67 = .ok (.aload_n 0, 1) := by decide +kernel
theorem d_M_meet_68 : decode b_M_meet 68 = .ok (.dup, 1) := by decide +kernel
theorem d_M_meet_69 : decode b_M_meet 69 = .ok (.getfield 133, 3) := by decide +kernel
theorem d_M_meet_72 : decode b_M_meet 72 = .ok (.iconst 1, 1) := by decide +kernel
theorem d_M_meet_73 : decode b_M_meet 73 = .ok (.iadd, 1) := by decide +kernel
theorem d_M_meet_74 : decode b_M_meet 74 = .ok (.putfield 133, 3) := by decide +kernel
theorem d_M_meet_77 : decode b_M_meet 77 = .ok (.aload_n 0, 1) := by decide +kernel
theorem d_M_meet_78 : decode b_M_meet 78 = .ok (.getfield 133, 3) := by decide +kernel
theorem d_M_meet_81 : decode b_M_meet 81 = .ok (.iconst 1, 1) := by decide +kernel
theorem d_M_meet_82 : decode b_M_meet 82 = .ok (.isub, 1) := by decide +kernel
theorem d_M_meet_83 : decode b_M_meet 83 = .ok (.ireturn, 1) := by decide +kernel

abbrev b_M_versionAt : ByteArray := prog_9_method_12_code
def y_M_versionAt : MethodName := ⟨"RegistryLogModel", "versionAt", "(II)I"⟩
theorem d_M_versionAt_0 : decode b_M_versionAt 0 = .ok (.iconst (-1), 1) := by decide +kernel
theorem d_M_versionAt_1 : decode b_M_versionAt 1 = .ok (.istore_n 3, 1) := by decide +kernel
theorem d_M_versionAt_2 : decode b_M_versionAt 2 = .ok (.iconst 0, 1) := by decide +kernel
theorem d_M_versionAt_3 : decode b_M_versionAt 3 = .ok (.istore 4, 2) := by decide +kernel
theorem d_M_versionAt_5 : decode b_M_versionAt 5 = .ok (.iload 4, 2) := by decide +kernel
theorem d_M_versionAt_7 : decode b_M_versionAt 7 = .ok (.aload_n 0, 1) := by decide +kernel
theorem d_M_versionAt_8 : decode b_M_versionAt 8 = .ok (.getfield 136, 3) := by decide +kernel
theorem d_M_versionAt_11 : decode b_M_versionAt 11 = .ok (.if_icmp .ge 38, 3) := by decide +kernel
theorem d_M_versionAt_14 : decode b_M_versionAt 14 = .ok (.aload_n 0, 1) := by decide +kernel
theorem d_M_versionAt_15 : decode b_M_versionAt 15 = .ok (.getfield 68, 3) := by decide +kernel
theorem d_M_versionAt_18 : decode b_M_versionAt 18 = .ok (.iload 4, 2) := by decide +kernel
theorem d_M_versionAt_20 : decode b_M_versionAt 20 = .ok (.iaload, 1) := by decide +kernel
theorem d_M_versionAt_21 : decode b_M_versionAt 21 = .ok (.iload_n 1, 1) := by decide +kernel
theorem d_M_versionAt_22 : decode b_M_versionAt 22 = .ok (.if_icmp .ne 19, 3) := by decide +kernel
theorem d_M_versionAt_25 : decode b_M_versionAt 25 = .ok (.aload_n 0, 1) := by decide +kernel
theorem d_M_versionAt_26 : decode b_M_versionAt 26 = .ok (.getfield 71, 3) := by decide +kernel
theorem d_M_versionAt_29 : decode b_M_versionAt 29 = .ok (.iload 4, 2) := by decide +kernel
theorem d_M_versionAt_31 : decode b_M_versionAt 31 = .ok (.iaload, 1) := by decide +kernel
theorem d_M_versionAt_32 : decode b_M_versionAt 32 = .ok (.iload_n 2, 1) := by decide +kernel
theorem d_M_versionAt_33 : decode b_M_versionAt 33 = .ok (.if_icmp .ne 8, 3) := by decide +kernel
theorem d_M_versionAt_36 : decode b_M_versionAt 36 = .ok (.iload 4, 2) := by decide +kernel
theorem d_M_versionAt_38 : decode b_M_versionAt 38 = .ok (.goto 4, 3) := by decide +kernel
theorem d_M_versionAt_41 : decode b_M_versionAt 41 = .ok (.iload_n 3, 1) := by decide +kernel
theorem d_M_versionAt_42 : decode b_M_versionAt 42 = .ok (.istore_n 3, 1) := by decide +kernel
theorem d_M_versionAt_43 : decode b_M_versionAt 43 = .ok (.iinc 4 1, 3) := by decide +kernel
theorem d_M_versionAt_46 : decode b_M_versionAt 46 = .ok (.goto (-41), 3) := by decide +kernel
theorem d_M_versionAt_49 : decode b_M_versionAt 49 = .ok (.iload_n 3, 1) := by decide +kernel
theorem d_M_versionAt_50 : decode b_M_versionAt 50 = .ok (.ireturn, 1) := by decide +kernel

abbrev b_M_goThrough : ByteArray := prog_9_method_13_code
def y_M_goThrough : MethodName := ⟨"RegistryLogModel", "goThrough", "(I)V"⟩
theorem d_M_goThrough_0 : decode b_M_goThrough 0 = .ok (.aload_n 0, 1) := by decide +kernel
theorem d_M_goThrough_1 : decode b_M_goThrough 1 = .ok (.iconst 0, 1) := by decide +kernel
theorem d_M_goThrough_2 : decode b_M_goThrough 2 = .ok (.putfield 133, 3) := by decide +kernel
theorem d_M_goThrough_5 : decode b_M_goThrough 5 = .ok (.aload_n 0, 1) := by decide +kernel
theorem d_M_goThrough_6 : decode b_M_goThrough 6 = .ok (.iconst 0, 1) := by decide +kernel
theorem d_M_goThrough_7 : decode b_M_goThrough 7 = .ok (.putfield 139, 3) := by decide +kernel
theorem d_M_goThrough_10 : decode b_M_goThrough 10 = .ok (.aload_n 0, 1) := by decide +kernel
theorem d_M_goThrough_11 : decode b_M_goThrough 11 = .ok (.iconst 0, 1) := by decide +kernel
theorem d_M_goThrough_12 : decode b_M_goThrough 12 = .ok (.putfield 136, 3) := by decide +kernel
theorem d_M_goThrough_15 : decode b_M_goThrough 15 = .ok (.iconst 0, 1) := by decide +kernel
theorem d_M_goThrough_16 : decode b_M_goThrough 16 = .ok (.istore_n 2, 1) := by decide +kernel
theorem d_M_goThrough_17 : decode b_M_goThrough 17 = .ok (.iload_n 2, 1) := by decide +kernel
theorem d_M_goThrough_18 : decode b_M_goThrough 18 = .ok (.aload_n 0, 1) := by decide +kernel
theorem d_M_goThrough_19 : decode b_M_goThrough 19 = .ok (.getfield 40, 3) := by decide +kernel
theorem d_M_goThrough_22 : decode b_M_goThrough 22 = .ok (.iload_n 1, 1) := by decide +kernel
theorem d_M_goThrough_23 : decode b_M_goThrough 23 = .ok (.iaload, 1) := by decide +kernel
theorem d_M_goThrough_24 : decode b_M_goThrough 24 = .ok (.if_icmp .ge 322, 3) := by decide +kernel
theorem d_M_goThrough_27 : decode b_M_goThrough 27 = .ok (.aload_n 0, 1) := by decide +kernel
theorem d_M_goThrough_28 : decode b_M_goThrough 28 = .ok (.aload_n 0, 1) := by decide +kernel
theorem d_M_goThrough_29 : decode b_M_goThrough 29 = .ok (.getfield 31, 3) := by decide +kernel
theorem d_M_goThrough_32 : decode b_M_goThrough 32 = .ok (.bipush 10, 2) := by decide +kernel
theorem d_M_goThrough_34 : decode b_M_goThrough 34 = .ok (.iload_n 2, 1) := by decide +kernel
theorem d_M_goThrough_35 : decode b_M_goThrough 35 = .ok (.imul, 1) := by decide +kernel
theorem d_M_goThrough_36 : decode b_M_goThrough 36 = .ok (.aload_n 0, 1) := by decide +kernel
theorem d_M_goThrough_37 : decode b_M_goThrough 37 = .ok (.getfield 25, 3) := by decide +kernel
theorem d_M_goThrough_40 : decode b_M_goThrough 40 = .ok (.iload_n 2, 1) := by decide +kernel
theorem d_M_goThrough_41 : decode b_M_goThrough 41 = .ok (.iaload, 1) := by decide +kernel
theorem d_M_goThrough_42 : decode b_M_goThrough 42 = .ok (.invokevirtual 142, 3) := by decide +kernel
theorem d_M_goThrough_45 : decode b_M_goThrough 45 = .ok (.istore_n 3, 1) := by decide +kernel
theorem d_M_goThrough_46 : decode b_M_goThrough 46 = .ok (.aload_n 0, 1) := by decide +kernel
theorem d_M_goThrough_47 : decode b_M_goThrough 47 = .ok (.getfield 13, 3) := by decide +kernel
theorem d_M_goThrough_50 : decode b_M_goThrough 50 = .ok (.iload_n 2, 1) := by decide +kernel
theorem d_M_goThrough_51 : decode b_M_goThrough 51 = .ok (.iaload, 1) := by decide +kernel
theorem d_M_goThrough_52 : decode b_M_goThrough 52 = .ok (.ifCond .ne 139, 3) := by decide +kernel
theorem d_M_goThrough_55 : decode b_M_goThrough 55 = .ok (.iload_n 3, 1) := by decide +kernel
theorem d_M_goThrough_56 : decode b_M_goThrough 56 = .ok (.iconst (-1), 1) := by decide +kernel
theorem d_M_goThrough_57 : decode b_M_goThrough 57 = .ok (.if_icmp .ne 61, 3) := by decide +kernel
theorem d_M_goThrough_60 : decode b_M_goThrough 60 = .ok (.aload_n 0, 1) := by decide +kernel
theorem d_M_goThrough_61 : decode b_M_goThrough 61 = .ok (.aload_n 0, 1) := by decide +kernel
theorem d_M_goThrough_62 : decode b_M_goThrough 62 = .ok (.getfield 31, 3) := by decide +kernel
theorem d_M_goThrough_65 : decode b_M_goThrough 65 = .ok (.bipush 10, 2) := by decide +kernel
theorem d_M_goThrough_67 : decode b_M_goThrough 67 = .ok (.iload_n 2, 1) := by decide +kernel
theorem d_M_goThrough_68 : decode b_M_goThrough 68 = .ok (.imul, 1) := by decide +kernel
theorem d_M_goThrough_69 : decode b_M_goThrough 69 = .ok (.aload_n 0, 1) := by decide +kernel
theorem d_M_goThrough_70 : decode b_M_goThrough 70 = .ok (.getfield 25, 3) := by decide +kernel
theorem d_M_goThrough_73 : decode b_M_goThrough 73 = .ok (.iload_n 2, 1) := by decide +kernel
theorem d_M_goThrough_74 : decode b_M_goThrough 74 = .ok (.iaload, 1) := by decide +kernel
theorem d_M_goThrough_75 : decode b_M_goThrough 75 = .ok (.aload_n 0, 1) := by decide +kernel
theorem d_M_goThrough_76 : decode b_M_goThrough 76 = .ok (.getfield 139, 3) := by decide +kernel
theorem d_M_goThrough_79 : decode b_M_goThrough 79 = .ok (.invokevirtual 146, 3) := by decide +kernel
theorem d_M_goThrough_82 : decode b_M_goThrough 82 = .ok (.istore_n 3, 1) := by decide +kernel
theorem d_M_goThrough_83 : decode b_M_goThrough 83 = .ok (.aload_n 0, 1) := by decide +kernel
theorem d_M_goThrough_84 : decode b_M_goThrough 84 = .ok (.getfield 62, 3) := by decide +kernel
theorem d_M_goThrough_87 : decode b_M_goThrough 87 = .ok (.aload_n 0, 1) := by decide +kernel
theorem d_M_goThrough_88 : decode b_M_goThrough 88 = .ok (.getfield 139, 3) := by decide +kernel
theorem d_M_goThrough_91 : decode b_M_goThrough 91 = .ok (.aload_n 0, 1) := by decide +kernel
theorem d_M_goThrough_92 : decode b_M_goThrough 92 = .ok (.getfield 16, 3) := by decide +kernel
theorem d_M_goThrough_95 : decode b_M_goThrough 95 = .ok (.iload_n 2, 1) := by decide +kernel
theorem d_M_goThrough_96 : decode b_M_goThrough 96 = .ok (.iaload, 1) := by decide +kernel
theorem d_M_goThrough_97 : decode b_M_goThrough 97 = .ok (.iastore, 1) := by decide +kernel
theorem d_M_goThrough_98 : decode b_M_goThrough 98 = .ok (.aload_n 0, 1) := by decide +kernel
theorem d_M_goThrough_99 : decode b_M_goThrough 99 = .ok (.getfield 65, 3) := by decide +kernel
theorem d_M_goThrough_102 : decode b_M_goThrough 102 = .ok (.aload_n 0, 1) := by decide +kernel
theorem d_M_goThrough_103 : decode b_M_goThrough 103 = .ok (.getfield 139, 3) := by decide +kernel
theorem d_M_goThrough_106 : decode b_M_goThrough 106 = .ok (.iconst 0, 1) := by decide +kernel
theorem d_M_goThrough_107 : decode b_M_goThrough 107 = .ok (.iastore, 1) := by decide +kernel
theorem d_M_goThrough_108 : decode b_M_goThrough 108 = .ok (.aload_n 0, 1) := by decide +kernel
theorem d_M_goThrough_109 : decode b_M_goThrough 109 = .ok (.dup, 1) := by decide +kernel
theorem d_M_goThrough_110 : decode b_M_goThrough 110 = .ok (.getfield 139, 3) := by decide +kernel
theorem d_M_goThrough_113 : decode b_M_goThrough 113 = .ok (.iconst 1, 1) := by decide +kernel
theorem d_M_goThrough_114 : decode b_M_goThrough 114 = .ok (.iadd, 1) := by decide +kernel
theorem d_M_goThrough_115 : decode b_M_goThrough 115 = .ok (.putfield 139, 3) := by decide +kernel
theorem d_M_goThrough_118 : decode b_M_goThrough 118 = .ok (.aload_n 0, 1) := by decide +kernel
theorem d_M_goThrough_119 : decode b_M_goThrough 119 = .ok (.getfield 68, 3) := by decide +kernel
theorem d_M_goThrough_122 : decode b_M_goThrough 122 = .ok (.aload_n 0, 1) := by decide +kernel
theorem d_M_goThrough_123 : decode b_M_goThrough 123 = .ok (.getfield 136, 3) := by decide +kernel
theorem d_M_goThrough_126 : decode b_M_goThrough 126 = .ok (.aload_n 0, 1) := by decide +kernel
theorem d_M_goThrough_127 : decode b_M_goThrough 127 = .ok (.getfield 59, 3) := by decide +kernel
theorem d_M_goThrough_130 : decode b_M_goThrough 130 = .ok (.iload_n 3, 1) := by decide +kernel
theorem d_M_goThrough_131 : decode b_M_goThrough 131 = .ok (.iaload, 1) := by decide +kernel
theorem d_M_goThrough_132 : decode b_M_goThrough 132 = .ok (.iastore, 1) := by decide +kernel
theorem d_M_goThrough_133 : decode b_M_goThrough 133 = .ok (.aload_n 0, 1) := by decide +kernel
theorem d_M_goThrough_134 : decode b_M_goThrough 134 = .ok (.getfield 71, 3) := by decide +kernel
theorem d_M_goThrough_137 : decode b_M_goThrough 137 = .ok (.aload_n 0, 1) := by decide +kernel
theorem d_M_goThrough_138 : decode b_M_goThrough 138 = .ok (.getfield 136, 3) := by decide +kernel
theorem d_M_goThrough_141 : decode b_M_goThrough 141 = .ok (.aload_n 0, 1) := by decide +kernel
theorem d_M_goThrough_142 : decode b_M_goThrough 142 = .ok (.getfield 19, 3) := by decide +kernel
theorem d_M_goThrough_145 : decode b_M_goThrough 145 = .ok (.iload_n 2, 1) := by decide +kernel
theorem d_M_goThrough_146 : decode b_M_goThrough 146 = .ok (.iaload, 1) := by decide +kernel
theorem d_M_goThrough_147 : decode b_M_goThrough 147 = .ok (.iastore, 1) := by decide +kernel
theorem d_M_goThrough_148 : decode b_M_goThrough 148 = .ok (.aload_n 0, 1) := by decide +kernel
theorem d_M_goThrough_149 : decode b_M_goThrough 149 = .ok (.getfield 74, 3) := by decide +kernel
theorem d_M_goThrough_152 : decode b_M_goThrough 152 = .ok (.aload_n 0, 1) := by decide +kernel
theorem d_M_goThrough_153 : decode b_M_goThrough 153 = .ok (.getfield 136, 3) := by decide +kernel
theorem d_M_goThrough_156 : decode b_M_goThrough 156 = .ok (.aload_n 0, 1) := by decide +kernel
theorem d_M_goThrough_157 : decode b_M_goThrough 157 = .ok (.getfield 37, 3) := by decide +kernel
theorem d_M_goThrough_160 : decode b_M_goThrough 160 = .ok (.bipush 120, 2) := by decide +kernel
theorem d_M_goThrough_162 : decode b_M_goThrough 162 = .ok (.iload_n 1, 1) := by decide +kernel
theorem d_M_goThrough_163 : decode b_M_goThrough 163 = .ok (.imul, 1) := by decide +kernel
theorem d_M_goThrough_164 : decode b_M_goThrough 164 = .ok (.iload_n 2, 1) := by decide +kernel
theorem d_M_goThrough_165 : decode b_M_goThrough 165 = .ok (.iadd, 1) := by decide +kernel
theorem d_M_goThrough_166 : decode b_M_goThrough 166 = .ok (.iaload, 1) := by decide +kernel
theorem d_M_goThrough_167 : decode b_M_goThrough 167 = .ok (.iastore, 1) := by decide +kernel
theorem d_M_goThrough_168 : decode b_M_goThrough 168 = .ok (.aload_n 0, 1) := by decide +kernel
theorem d_M_goThrough_169 : decode b_M_goThrough 169 = .ok (.getfield 77, 3) := by decide +kernel
theorem d_M_goThrough_172 : decode b_M_goThrough 172 = .ok (.aload_n 0, 1) := by decide +kernel
theorem d_M_goThrough_173 : decode b_M_goThrough 173 = .ok (.getfield 136, 3) := by decide +kernel
theorem d_M_goThrough_176 : decode b_M_goThrough 176 = .ok (.iconst 0, 1) := by decide +kernel
theorem d_M_goThrough_177 : decode b_M_goThrough 177 = .ok (.iastore, 1) := by decide +kernel
theorem d_M_goThrough_178 : decode b_M_goThrough 178 = .ok (.aload_n 0, 1) := by decide +kernel
theorem d_M_goThrough_179 : decode b_M_goThrough 179 = .ok (.dup, 1) := by decide +kernel
theorem d_M_goThrough_180 : decode b_M_goThrough 180 = .ok (.getfield 136, 3) := by decide +kernel
theorem d_M_goThrough_183 : decode b_M_goThrough 183 = .ok (.iconst 1, 1) := by decide +kernel
theorem d_M_goThrough_184 : decode b_M_goThrough 184 = .ok (.iadd, 1) := by decide +kernel
theorem d_M_goThrough_185 : decode b_M_goThrough 185 = .ok (.putfield 136, 3) := by decide +kernel
theorem d_M_goThrough_188 : decode b_M_goThrough 188 = .ok (.goto 152, 3) := by decide +kernel
theorem d_M_goThrough_191 : decode b_M_goThrough 191 = .ok (.aload_n 0, 1) := by decide +kernel
theorem d_M_goThrough_192 : decode b_M_goThrough 192 = .ok (.getfield 13, 3) := by decide +kernel
theorem d_M_goThrough_195 : decode b_M_goThrough 195 = .ok (.iload_n 2, 1) := by decide +kernel
theorem d_M_goThrough_196 : decode b_M_goThrough 196 = .ok (.iaload, 1) := by decide +kernel
theorem d_M_goThrough_197 : decode b_M_goThrough 197 = .ok (.iconst 1, 1) := by decide +kernel
theorem d_M_goThrough_198 : decode b_M_goThrough 198 = .ok (.if_icmp .ne 33, 3) := by decide +kernel
theorem d_M_goThrough_201 : decode b_M_goThrough 201 = .ok (.aload_n 0, 1) := by decide +kernel
theorem d_M_goThrough_202 : decode b_M_goThrough 202 = .ok (.getfield 77, 3) := by decide +kernel
theorem d_M_goThrough_205 : decode b_M_goThrough 205 = .ok (.aload_n 0, 1) := by decide +kernel
theorem d_M_goThrough_206 : decode b_M_goThrough 206 = .ok (.aload_n 0, 1) := by decide +kernel
theorem d_M_goThrough_207 : decode b_M_goThrough 207 = .ok (.getfield 59, 3) := by decide +kernel
theorem d_M_goThrough_210 : decode b_M_goThrough 210 = .ok (.iload_n 3, 1) := by decide +kernel
theorem d_M_goThrough_211 : decode b_M_goThrough 211 = .ok (.iaload, 1) := by decide +kernel
theorem d_M_goThrough_212 : decode b_M_goThrough 212 = .ok (.aload_n 0, 1) := by decide +kernel
theorem d_M_goThrough_213 : decode b_M_goThrough 213 = .ok (.getfield 19, 3) := by decide +kernel
theorem d_M_goThrough_216 : decode b_M_goThrough 216 = .ok (.iload_n 2, 1) := by decide +kernel
theorem d_M_goThrough_217 : decode b_M_goThrough 217 = .ok (.iaload, 1) := by decide +kernel
theorem d_M_goThrough_218 : decode b_M_goThrough 218 = .ok (.invokevirtual 150, 3) := by decide +kernel
theorem d_M_goThrough_221 : decode b_M_goThrough 221 = .ok (.aload_n 0, 1) := by decide +kernel
theorem d_M_goThrough_222 : decode b_M_goThrough 222 = .ok (.getfield 22, 3) := by decide +kernel
theorem d_M_goThrough_225 : decode b_M_goThrough 225 = .ok (.iload_n 2, 1) := by decide +kernel
theorem d_M_goThrough_226 : decode b_M_goThrough 226 = .ok (.iaload, 1) := by decide +kernel
theorem d_M_goThrough_227 : decode b_M_goThrough 227 = .ok (.iastore, 1) := by decide +kernel
theorem d_M_goThrough_228 : decode b_M_goThrough 228 = .ok (.goto 112, 3) := by decide +kernel
theorem d_M_goThrough_231 : decode b_M_goThrough 231 = .ok (.aload_n 0, 1) := by decide +kernel
theorem d_M_goThrough_232 : decode b_M_goThrough 232 = .ok (.getfield 13, 3) := by decide +kernel
theorem d_M_goThrough_235 : decode b_M_goThrough 235 = .ok (.iload_n 2, 1) := by decide +kernel
theorem d_M_goThrough_236 : decode b_M_goThrough 236 = .ok (.iaload, 1) := by decide +kernel
theorem d_M_goThrough_237 : decode b_M_goThrough 237 = .ok (.iconst 2, 1) := by decide +kernel
theorem d_M_goThrough_238 : decode b_M_goThrough 238 = .ok (.if_icmp .ne 70, 3) := by decide +kernel
theorem d_M_goThrough_241 : decode b_M_goThrough 241 = .ok (.iconst 1, 1) := by decide +kernel
theorem d_M_goThrough_242 : decode b_M_goThrough 242 = .ok (.aload_n 0, 1) := by decide +kernel
theorem d_M_goThrough_243 : decode b_M_goThrough 243 = .ok (.getfield 19, 3) := by decide +kernel
theorem d_M_goThrough_246 : decode b_M_goThrough 246 = .ok (.iload_n 2, 1) := by decide +kernel
theorem d_M_goThrough_247 : decode b_M_goThrough 247 = .ok (.iaload, 1) := by decide +kernel
theorem d_M_goThrough_248 : decode b_M_goThrough 248 = .ok (.ishl, 1) := by decide +kernel
theorem d_M_goThrough_249 : decode b_M_goThrough 249 = .ok (.istore 4, 2) := by decide +kernel
theorem d_M_goThrough_251 : decode b_M_goThrough 251 = .ok (.aload_n 0, 1) := by decide +kernel
theorem d_M_goThrough_252 : decode b_M_goThrough 252 = .ok (.getfield 65, 3) := by decide +kernel
theorem d_M_goThrough_255 : decode b_M_goThrough 255 = .ok (.aload_n 0, 1) := by decide +kernel
theorem d_M_goThrough_256 : decode b_M_goThrough 256 = .ok (.getfield 59, 3) := by decide +kernel
theorem d_M_goThrough_259 : decode b_M_goThrough 259 = .ok (.iload_n 3, 1) := by decide +kernel
theorem d_M_goThrough_260 : decode b_M_goThrough 260 = .ok (.iaload, 1) := by decide +kernel
theorem d_M_goThrough_261 : decode b_M_goThrough 261 = .ok (.aload_n 0, 1) := by decide +kernel
theorem d_M_goThrough_262 : decode b_M_goThrough 262 = .ok (.getfield 22, 3) := by decide +kernel
theorem d_M_goThrough_265 : decode b_M_goThrough 265 = .ok (.iload_n 2, 1) := by decide +kernel
theorem d_M_goThrough_266 : decode b_M_goThrough 266 = .ok (.iaload, 1) := by decide +kernel
theorem d_M_goThrough_267 : decode b_M_goThrough 267 = .ok (.iconst 1, 1) := by decide +kernel
theorem d_M_goThrough_268 : decode b_M_goThrough 268 = .ok (.if_icmp .ne 20, 3) := by decide +kernel
theorem d_M_goThrough_271 : decode b_M_goThrough 271 = .ok (.aload_n 0, 1) := by decide +kernel
theorem d_M_goThrough_272 : decode b_M_goThrough 272 = .ok (.getfield 65, 3) := by decide +kernel
theorem d_M_goThrough_275 : decode b_M_goThrough 275 = .ok (.aload_n 0, 1) := by decide +kernel
theorem d_M_goThrough_276 : decode b_M_goThrough 276 = .ok (.getfield 59, 3) := by decide +kernel
theorem d_M_goThrough_279 : decode b_M_goThrough 279 = .ok (.iload_n 3, 1) := by decide +kernel
theorem d_M_goThrough_280 : decode b_M_goThrough 280 = .ok (.iaload, 1) := by decide +kernel
theorem d_M_goThrough_281 : decode b_M_goThrough 281 = .ok (.iaload, 1) := by decide +kernel
theorem d_M_goThrough_282 : decode b_M_goThrough 282 = .ok (.iload 4, 2) := by decide +kernel
theorem d_M_goThrough_284 : decode b_M_goThrough 284 = .ok (.ior, 1) := by decide +kernel
theorem d_M_goThrough_285 : decode b_M_goThrough 285 = .ok (.goto 19, 3) := by decide +kernel
theorem d_M_goThrough_288 : decode b_M_goThrough 288 = .ok (.aload_n 0, 1) := by decide +kernel
theorem d_M_goThrough_289 : decode b_M_goThrough 289 = .ok (.getfield 65, 3) := by decide +kernel
theorem d_M_goThrough_292 : decode b_M_goThrough 292 = .ok (.aload_n 0, 1) := by decide +kernel
theorem d_M_goThrough_293 : decode b_M_goThrough 293 = .ok (.getfield 59, 3) := by decide +kernel
theorem d_M_goThrough_296 : decode b_M_goThrough 296 = .ok (.iload_n 3, 1) := by decide +kernel
theorem d_M_goThrough_297 : decode b_M_goThrough 297 = .ok (.iaload, 1) := by decide +kernel
theorem d_M_goThrough_298 : decode b_M_goThrough 298 = .ok (.iaload, 1) := by decide +kernel
theorem d_M_goThrough_299 : decode b_M_goThrough 299 = .ok (.iload 4, 2) := by decide +kernel
theorem d_M_goThrough_301 : decode b_M_goThrough 301 = .ok (.iconst (-1), 1) := by decide +kernel
theorem d_M_goThrough_302 : decode b_M_goThrough 302 = .ok (.ixor, 1) := by decide +kernel
theorem d_M_goThrough_303 : decode b_M_goThrough 303 = .ok (.iand, 1) := by decide +kernel
theorem d_M_goThrough_304 : decode b_M_goThrough 304 = .ok (.iastore, 1) := by decide +kernel
theorem d_M_goThrough_305 : decode b_M_goThrough 305 = .ok (.goto 35, 3) := by decide +kernel
theorem d_M_goThrough_308 : decode b_M_goThrough 308 = .ok (.aload_n 0, 1) := by decide +kernel
theorem d_M_goThrough_309 : decode b_M_goThrough 309 = .ok (.getfield 56, 3) := by decide +kernel
theorem d_M_goThrough_312 : decode b_M_goThrough 312 = .ok (.iload_n 3, 1) := by decide +kernel
theorem d_M_goThrough_313 : decode b_M_goThrough 313 = .ok (.iconst 2, 1) := by decide +kernel
theorem d_M_goThrough_314 : decode b_M_goThrough 314 = .ok (.iastore, 1) := by decide +kernel
theorem d_M_goThrough_315 : decode b_M_goThrough 315 = .ok (.aload_n 0, 1) := by decide +kernel
theorem d_M_goThrough_316 : decode b_M_goThrough 316 = .ok (.aload_n 0, 1) := by decide +kernel
theorem d_M_goThrough_317 : decode b_M_goThrough 317 = .ok (.getfield 34, 3) := by decide +kernel
theorem d_M_goThrough_320 : decode b_M_goThrough 320 = .ok (.bipush 10, 2) := by decide +kernel
theorem d_M_goThrough_322 : decode b_M_goThrough 322 = .ok (.iload_n 2, 1) := by decide +kernel
theorem d_M_goThrough_323 : decode b_M_goThrough 323 = .ok (.imul, 1) := by decide +kernel
theorem d_M_goThrough_324 : decode b_M_goThrough 324 = .ok (.aload_n 0, 1) := by decide +kernel
theorem d_M_goThrough_325 : decode b_M_goThrough 325 = .ok (.getfield 28, 3) := by decide +kernel
theorem d_M_goThrough_328 : decode b_M_goThrough 328 = .ok (.iload_n 2, 1) := by decide +kernel
theorem d_M_goThrough_329 : decode b_M_goThrough 329 = .ok (.iaload, 1) := by decide +kernel
theorem d_M_goThrough_330 : decode b_M_goThrough 330 = .ok (.aload_n 0, 1) := by decide +kernel
theorem d_M_goThrough_331 : decode b_M_goThrough 331 = .ok (.getfield 59, 3) := by decide +kernel
theorem d_M_goThrough_334 : decode b_M_goThrough 334 = .ok (.iload_n 3, 1) := by decide +kernel
theorem d_M_goThrough_335 : decode b_M_goThrough 335 = .ok (.iaload, 1) := by decide +kernel
theorem d_M_goThrough_336 : decode b_M_goThrough 336 = .ok (.invokevirtual 146, 3) := by decide +kernel
theorem d_M_goThrough_339 : decode b_M_goThrough 339 = .ok (.pop, 1) := by decide +kernel
theorem d_M_goThrough_340 : decode b_M_goThrough 340 = .ok (.iinc 2 1, 3) := by decide +kernel
theorem d_M_goThrough_343 : decode b_M_goThrough 343 = .ok (.goto (-326), 3) := by decide +kernel
theorem d_M_goThrough_346 : decode b_M_goThrough 346 = .ok (.return_, 1) := by decide +kernel

abbrev b_M_isKnown : ByteArray := prog_9_method_14_code
def y_M_isKnown : MethodName := ⟨"RegistryLogModel", "isKnown", "(I)Z"⟩
theorem d_M_isKnown_0 : decode b_M_isKnown 0 = .ok (.iload_n 1, 1) := by decide +kernel
theorem d_M_isKnown_1 : decode b_M_isKnown 1 = .ok (.iconst (-1), 1) := by decide +kernel
theorem d_M_isKnown_2 : decode b_M_isKnown 2 = .ok (.if_icmp .eq 17, 3) := by decide +kernel
theorem d_M_isKnown_5 : decode b_M_isKnown 5 = .ok (.aload_n 0, 1) := by decide +kernel
theorem d_M_isKnown_6 : decode b_M_isKnown 6 = .ok (.getfield 56, 3) := by decide +kernel
theorem d_M_isKnown_9 : decode b_M_isKnown 9 = .ok (.iload_n 1, 1) := by decide +kernel
theorem d_M_isKnown_10 : decode b_M_isKnown 10 = .ok (.iaload, 1) := by decide +kernel
theorem d_M_isKnown_11 : decode b_M_isKnown 11 = .ok (.iconst 1, 1) := by decide +kernel
theorem d_M_isKnown_12 : decode b_M_isKnown 12 = .ok (.if_icmp .ne 7, 3) := by decide +kernel
theorem d_M_isKnown_15 : decode b_M_isKnown 15 = .ok (.iconst 1, 1) := by decide +kernel
theorem d_M_isKnown_16 : decode b_M_isKnown 16 = .ok (.goto 4, 3) := by decide +kernel
theorem d_M_isKnown_19 : decode b_M_isKnown 19 = .ok (.iconst 0, 1) := by decide +kernel
theorem d_M_isKnown_20 : decode b_M_isKnown 20 = .ok (.ireturn, 1) := by decide +kernel

abbrev b_M_hasRight : ByteArray := prog_9_method_15_code
def y_M_hasRight : MethodName := ⟨"RegistryLogModel", "hasRight", "(II)Z"⟩
theorem d_M_hasRight_0 : decode b_M_hasRight 0 = .ok (.aload_n 0, 1) := by decide +kernel
theorem d_M_hasRight_1 : decode b_M_hasRight 1 = .ok (.iload_n 1, 1) := by decide +kernel
theorem d_M_hasRight_2 : decode b_M_hasRight 2 = .ok (.invokevirtual 154, 3) := by decide +kernel
theorem d_M_hasRight_5 : decode b_M_hasRight 5 = .ok (.ifCond .eq 41, 3) := by decide +kernel
theorem d_M_hasRight_8 : decode b_M_hasRight 8 = .ok (.aload_n 0, 1) := by decide +kernel
theorem d_M_hasRight_9 : decode b_M_hasRight 9 = .ok (.getfield 62, 3) := by decide +kernel
theorem d_M_hasRight_12 : decode b_M_hasRight 12 = .ok (.aload_n 0, 1) := by decide +kernel
theorem d_M_hasRight_13 : decode b_M_hasRight 13 = .ok (.getfield 59, 3) := by decide +kernel
theorem d_M_hasRight_16 : decode b_M_hasRight 16 = .ok (.iload_n 1, 1) := by decide +kernel
theorem d_M_hasRight_17 : decode b_M_hasRight 17 = .ok (.iaload, 1) := by decide +kernel
theorem d_M_hasRight_18 : decode b_M_hasRight 18 = .ok (.iaload, 1) := by decide +kernel
theorem d_M_hasRight_19 : decode b_M_hasRight 19 = .ok (.iload_n 2, 1) := by decide +kernel
theorem d_M_hasRight_20 : decode b_M_hasRight 20 = .ok (.if_icmp .eq 22, 3) := by decide +kernel
theorem d_M_hasRight_23 : decode b_M_hasRight 23 = .ok (.aload_n 0, 1) := by decide +kernel
theorem d_M_hasRight_24 : decode b_M_hasRight 24 = .ok (.getfield 65, 3) := by decide +kernel
theorem d_M_hasRight_27 : decode b_M_hasRight 27 = .ok (.aload_n 0, 1) := by decide +kernel
theorem d_M_hasRight_28 : decode b_M_hasRight 28 = .ok (.getfield 59, 3) := by decide +kernel
theorem d_M_hasRight_31 : decode b_M_hasRight 31 = .ok (.iload_n 1, 1) := by decide +kernel
theorem d_M_hasRight_32 : decode b_M_hasRight 32 = .ok (.iaload, 1) := by decide +kernel
theorem d_M_hasRight_33 : decode b_M_hasRight 33 = .ok (.iaload, 1) := by decide +kernel
theorem d_M_hasRight_34 : decode b_M_hasRight 34 = .ok (.iload_n 2, 1) := by decide +kernel
theorem d_M_hasRight_35 : decode b_M_hasRight 35 = .ok (.ishr, 1) := by decide +kernel
theorem d_M_hasRight_36 : decode b_M_hasRight 36 = .ok (.iconst 1, 1) := by decide +kernel
theorem d_M_hasRight_37 : decode b_M_hasRight 37 = .ok (.iand, 1) := by decide +kernel
theorem d_M_hasRight_38 : decode b_M_hasRight 38 = .ok (.iconst 1, 1) := by decide +kernel
theorem d_M_hasRight_39 : decode b_M_hasRight 39 = .ok (.if_icmp .ne 7, 3) := by decide +kernel
theorem d_M_hasRight_42 : decode b_M_hasRight 42 = .ok (.iconst 1, 1) := by decide +kernel
theorem d_M_hasRight_43 : decode b_M_hasRight 43 = .ok (.goto 4, 3) := by decide +kernel
theorem d_M_hasRight_46 : decode b_M_hasRight 46 = .ok (.iconst 0, 1) := by decide +kernel
theorem d_M_hasRight_47 : decode b_M_hasRight 47 = .ok (.ireturn, 1) := by decide +kernel

abbrev b_M_isFounder : ByteArray := prog_9_method_16_code
def y_M_isFounder : MethodName := ⟨"RegistryLogModel", "isFounder", "(II)Z"⟩
theorem d_M_isFounder_0 : decode b_M_isFounder 0 = .ok (.aload_n 0, 1) := by decide +kernel
theorem d_M_isFounder_1 : decode b_M_isFounder 1 = .ok (.iload_n 1, 1) := by decide +kernel
theorem d_M_isFounder_2 : decode b_M_isFounder 2 = .ok (.invokevirtual 154, 3) := by decide +kernel
theorem d_M_isFounder_5 : decode b_M_isFounder 5 = .ok (.ifCond .eq 22, 3) := by decide +kernel
theorem d_M_isFounder_8 : decode b_M_isFounder 8 = .ok (.aload_n 0, 1) := by decide +kernel
theorem d_M_isFounder_9 : decode b_M_isFounder 9 = .ok (.getfield 62, 3) := by decide +kernel
theorem d_M_isFounder_12 : decode b_M_isFounder 12 = .ok (.aload_n 0, 1) := by decide +kernel
theorem d_M_isFounder_13 : decode b_M_isFounder 13 = .ok (.getfield 59, 3) := by decide +kernel
theorem d_M_isFounder_16 : decode b_M_isFounder 16 = .ok (.iload_n 1, 1) := by decide +kernel
theorem d_M_isFounder_17 : decode b_M_isFounder 17 = .ok (.iaload, 1) := by decide +kernel
theorem d_M_isFounder_18 : decode b_M_isFounder 18 = .ok (.iaload, 1) := by decide +kernel
theorem d_M_isFounder_19 : decode b_M_isFounder 19 = .ok (.iload_n 2, 1) := by decide +kernel
theorem d_M_isFounder_20 : decode b_M_isFounder 20 = .ok (.if_icmp .ne 7, 3) := by decide +kernel
theorem d_M_isFounder_23 : decode b_M_isFounder 23 = .ok (.iconst 1, 1) := by decide +kernel
theorem d_M_isFounder_24 : decode b_M_isFounder 24 = .ok (.goto 4, 3) := by decide +kernel
theorem d_M_isFounder_27 : decode b_M_isFounder 27 = .ok (.iconst 0, 1) := by decide +kernel
theorem d_M_isFounder_28 : decode b_M_isFounder 28 = .ok (.ireturn, 1) := by decide +kernel

abbrev b_M_isFree : ByteArray := prog_9_method_17_code
def y_M_isFree : MethodName := ⟨"RegistryLogModel", "isFree", "([III)Z"⟩
theorem d_M_isFree_0 : decode b_M_isFree 0 = .ok (.aload_n 0, 1) := by decide +kernel
theorem d_M_isFree_1 : decode b_M_isFree 1 = .ok (.aload_n 1, 1) := by decide +kernel
theorem d_M_isFree_2 : decode b_M_isFree 2 = .ok (.iconst 0, 1) := by decide +kernel
theorem d_M_isFree_3 : decode b_M_isFree 3 = .ok (.iload_n 2, 1) := by decide +kernel
theorem d_M_isFree_4 : decode b_M_isFree 4 = .ok (.invokevirtual 142, 3) := by decide +kernel
theorem d_M_isFree_7 : decode b_M_isFree 7 = .ok (.iconst (-1), 1) := by decide +kernel
theorem d_M_isFree_8 : decode b_M_isFree 8 = .ok (.if_icmp .ne 7, 3) := by decide +kernel
theorem d_M_isFree_11 : decode b_M_isFree 11 = .ok (.iconst 1, 1) := by decide +kernel
theorem d_M_isFree_12 : decode b_M_isFree 12 = .ok (.goto 4, 3) := by decide +kernel
theorem d_M_isFree_15 : decode b_M_isFree 15 = .ok (.iconst 0, 1) := by decide +kernel
theorem d_M_isFree_16 : decode b_M_isFree 16 = .ok (.istore 4, 2) := by decide +kernel
theorem d_M_isFree_18 : decode b_M_isFree 18 = .ok (.iconst 0, 1) := by decide +kernel
theorem d_M_isFree_19 : decode b_M_isFree 19 = .ok (.istore 5, 2) := by decide +kernel
theorem d_M_isFree_21 : decode b_M_isFree 21 = .ok (.iload 5, 2) := by decide +kernel
theorem d_M_isFree_23 : decode b_M_isFree 23 = .ok (.aload_n 0, 1) := by decide +kernel
theorem d_M_isFree_24 : decode b_M_isFree 24 = .ok (.getfield 133, 3) := by decide +kernel
theorem d_M_isFree_27 : decode b_M_isFree 27 = .ok (.if_icmp .ge 49, 3) := by decide +kernel
theorem d_M_isFree_30 : decode b_M_isFree 30 = .ok (.iload 4, 2) := by decide +kernel
theorem d_M_isFree_32 : decode b_M_isFree 32 = .ok (.ifCond .eq 44, 3) := by decide +kernel
theorem d_M_isFree_35 : decode b_M_isFree 35 = .ok (.iload 5, 2) := by decide +kernel
theorem d_M_isFree_37 : decode b_M_isFree 37 = .ok (.iload_n 3, 1) := by decide +kernel
theorem d_M_isFree_38 : decode b_M_isFree 38 = .ok (.if_icmp .eq 25, 3) := by decide +kernel
theorem d_M_isFree_41 : decode b_M_isFree 41 = .ok (.aload_n 0, 1) := by decide +kernel
theorem d_M_isFree_42 : decode b_M_isFree 42 = .ok (.getfield 56, 3) := by decide +kernel
theorem d_M_isFree_45 : decode b_M_isFree 45 = .ok (.iload 5, 2) := by decide +kernel
theorem d_M_isFree_47 : decode b_M_isFree 47 = .ok (.iaload, 1) := by decide +kernel
theorem d_M_isFree_48 : decode b_M_isFree 48 = .ok (.iconst 1, 1) := by decide +kernel
theorem d_M_isFree_49 : decode b_M_isFree 49 = .ok (.if_icmp .ne 14, 3) := by decide +kernel
theorem d_M_isFree_52 : decode b_M_isFree 52 = .ok (.aload_n 0, 1) := by decide +kernel
theorem d_M_isFree_53 : decode b_M_isFree 53 = .ok (.aload_n 1, 1) := by decide +kernel
theorem d_M_isFree_54 : decode b_M_isFree 54 = .ok (.iload_n 2, 1) := by decide +kernel
theorem d_M_isFree_55 : decode b_M_isFree 55 = .ok (.iload 5, 2) := by decide +kernel
theorem d_M_isFree_57 : decode b_M_isFree 57 = .ok (.invokevirtual 157, 3) := by decide +kernel
theorem d_M_isFree_60 : decode b_M_isFree 60 = .ok (.ifCond .ne 7, 3) := by decide +kernel
theorem d_M_isFree_63 : decode b_M_isFree 63 = .ok (.iconst 1, 1) := by decide +kernel
theorem d_M_isFree_64 : decode b_M_isFree 64 = .ok (.goto 4, 3) := by decide +kernel
theorem d_M_isFree_67 : decode b_M_isFree 67 = .ok (.iconst 0, 1) := by decide +kernel
theorem d_M_isFree_68 : decode b_M_isFree 68 = .ok (.istore 4, 2) := by decide +kernel
theorem d_M_isFree_70 : decode b_M_isFree 70 = .ok (.iinc 5 1, 3) := by decide +kernel
theorem d_M_isFree_73 : decode b_M_isFree 73 = .ok (.goto (-52), 3) := by decide +kernel
theorem d_M_isFree_76 : decode b_M_isFree 76 = .ok (.iload 4, 2) := by decide +kernel
theorem d_M_isFree_78 : decode b_M_isFree 78 = .ok (.ireturn, 1) := by decide +kernel

abbrev b_M_isPerson : ByteArray := prog_9_method_18_code
def y_M_isPerson : MethodName := ⟨"RegistryLogModel", "isPerson", "(I)Z"⟩
theorem d_M_isPerson_0 : decode b_M_isPerson 0 = .ok (.iload_n 0, 1) := by decide +kernel
theorem d_M_isPerson_1 : decode b_M_isPerson 1 = .ok (.ifCond .lt 13, 3) := by decide +kernel
theorem d_M_isPerson_4 : decode b_M_isPerson 4 = .ok (.iload_n 0, 1) := by decide +kernel
theorem d_M_isPerson_5 : decode b_M_isPerson 5 = .ok (.bipush 8, 2) := by decide +kernel
theorem d_M_isPerson_7 : decode b_M_isPerson 7 = .ok (.if_icmp .ge 7, 3) := by decide +kernel
theorem d_M_isPerson_10 : decode b_M_isPerson 10 = .ok (.iconst 1, 1) := by decide +kernel
theorem d_M_isPerson_11 : decode b_M_isPerson 11 = .ok (.goto 4, 3) := by decide +kernel
theorem d_M_isPerson_14 : decode b_M_isPerson 14 = .ok (.iconst 0, 1) := by decide +kernel
theorem d_M_isPerson_15 : decode b_M_isPerson 15 = .ok (.ireturn, 1) := by decide +kernel

abbrev b_M_isVersion : ByteArray := prog_9_method_19_code
def y_M_isVersion : MethodName := ⟨"RegistryLogModel", "isVersion", "(I)Z"⟩
theorem d_M_isVersion_0 : decode b_M_isVersion 0 = .ok (.iload_n 0, 1) := by decide +kernel
theorem d_M_isVersion_1 : decode b_M_isVersion 1 = .ok (.ifCond .lt 14, 3) := by decide +kernel
theorem d_M_isVersion_4 : decode b_M_isVersion 4 = .ok (.iload_n 0, 1) := by decide +kernel
theorem d_M_isVersion_5 : decode b_M_isVersion 5 = .ok (.sipush 1000, 3) := by decide +kernel
theorem d_M_isVersion_8 : decode b_M_isVersion 8 = .ok (.if_icmp .ge 7, 3) := by decide +kernel
theorem d_M_isVersion_11 : decode b_M_isVersion 11 = .ok (.iconst 1, 1) := by decide +kernel
theorem d_M_isVersion_12 : decode b_M_isVersion 12 = .ok (.goto 4, 3) := by decide +kernel
theorem d_M_isVersion_15 : decode b_M_isVersion 15 = .ok (.iconst 0, 1) := by decide +kernel
theorem d_M_isVersion_16 : decode b_M_isVersion 16 = .ok (.ireturn, 1) := by decide +kernel

abbrev b_M_write : ByteArray := prog_9_method_20_code
def y_M_write : MethodName := ⟨"RegistryLogModel", "write", "(IIII)I"⟩
theorem d_M_write_0 : decode b_M_write 0 = .ok (.aload_n 0, 1) := by decide +kernel
theorem d_M_write_1 : decode b_M_write 1 = .ok (.getfield 40, 3) := by decide +kernel
theorem d_M_write_4 : decode b_M_write 4 = .ok (.iconst 4, 1) := by decide +kernel
theorem d_M_write_5 : decode b_M_write 5 = .ok (.iaload, 1) := by decide +kernel
theorem d_M_write_6 : decode b_M_write 6 = .ok (.istore 5, 2) := by decide +kernel
theorem d_M_write_8 : decode b_M_write 8 = .ok (.aload_n 0, 1) := by decide +kernel
theorem d_M_write_9 : decode b_M_write 9 = .ok (.getfield 13, 3) := by decide +kernel
theorem d_M_write_12 : decode b_M_write 12 = .ok (.iload 5, 2) := by decide +kernel
theorem d_M_write_14 : decode b_M_write 14 = .ok (.iload_n 1, 1) := by decide +kernel
theorem d_M_write_15 : decode b_M_write 15 = .ok (.iastore, 1) := by decide +kernel
theorem d_M_write_16 : decode b_M_write 16 = .ok (.aload_n 0, 1) := by decide +kernel
theorem d_M_write_17 : decode b_M_write 17 = .ok (.getfield 16, 3) := by decide +kernel
theorem d_M_write_20 : decode b_M_write 20 = .ok (.iload 5, 2) := by decide +kernel
theorem d_M_write_22 : decode b_M_write 22 = .ok (.iload_n 2, 1) := by decide +kernel
theorem d_M_write_23 : decode b_M_write 23 = .ok (.iastore, 1) := by decide +kernel
theorem d_M_write_24 : decode b_M_write 24 = .ok (.aload_n 0, 1) := by decide +kernel
theorem d_M_write_25 : decode b_M_write 25 = .ok (.getfield 19, 3) := by decide +kernel
theorem d_M_write_28 : decode b_M_write 28 = .ok (.iload 5, 2) := by decide +kernel
theorem d_M_write_30 : decode b_M_write 30 = .ok (.iload_n 3, 1) := by decide +kernel
theorem d_M_write_31 : decode b_M_write 31 = .ok (.iastore, 1) := by decide +kernel
theorem d_M_write_32 : decode b_M_write 32 = .ok (.aload_n 0, 1) := by decide +kernel
theorem d_M_write_33 : decode b_M_write 33 = .ok (.getfield 22, 3) := by decide +kernel
theorem d_M_write_36 : decode b_M_write 36 = .ok (.iload 5, 2) := by decide +kernel
theorem d_M_write_38 : decode b_M_write 38 = .ok (.iload 4, 2) := by decide +kernel
theorem d_M_write_40 : decode b_M_write 40 = .ok (.iastore, 1) := by decide +kernel
theorem d_M_write_41 : decode b_M_write 41 = .ok (.aload_n 0, 1) := by decide +kernel
theorem d_M_write_42 : decode b_M_write 42 = .ok (.getfield 37, 3) := by decide +kernel
theorem d_M_write_45 : decode b_M_write 45 = .ok (.sipush 480, 3) := by decide +kernel
theorem d_M_write_48 : decode b_M_write 48 = .ok (.iload 5, 2) := by decide +kernel
theorem d_M_write_50 : decode b_M_write 50 = .ok (.iadd, 1) := by decide +kernel
theorem d_M_write_51 : decode b_M_write 51 = .ok (.iload 4, 2) := by decide +kernel
theorem d_M_write_53 : decode b_M_write 53 = .ok (.iastore, 1) := by decide +kernel
theorem d_M_write_54 : decode b_M_write 54 = .ok (.aload_n 0, 1) := by decide +kernel
theorem d_M_write_55 : decode b_M_write 55 = .ok (.getfield 25, 3) := by decide +kernel
theorem d_M_write_58 : decode b_M_write 58 = .ok (.iload 5, 2) := by decide +kernel
theorem d_M_write_60 : decode b_M_write 60 = .ok (.aload_n 0, 1) := by decide +kernel
theorem d_M_write_61 : decode b_M_write 61 = .ok (.getfield 123, 3) := by decide +kernel
theorem d_M_write_64 : decode b_M_write 64 = .ok (.iastore, 1) := by decide +kernel
theorem d_M_write_65 : decode b_M_write 65 = .ok (.aload_n 0, 1) := by decide +kernel
theorem d_M_write_66 : decode b_M_write 66 = .ok (.getfield 28, 3) := by decide +kernel
theorem d_M_write_69 : decode b_M_write 69 = .ok (.iload 5, 2) := by decide +kernel
theorem d_M_write_71 : decode b_M_write 71 = .ok (.aload_n 0, 1) := by decide +kernel
theorem d_M_write_72 : decode b_M_write 72 = .ok (.getfield 126, 3) := by decide +kernel
theorem d_M_write_75 : decode b_M_write 75 = .ok (.iastore, 1) := by decide +kernel
theorem d_M_write_76 : decode b_M_write 76 = .ok (.iconst 0, 1) := by decide +kernel
theorem d_M_write_77 : decode b_M_write 77 = .ok (.istore 6, 2) := by decide +kernel
theorem d_M_write_79 : decode b_M_write 79 = .ok (.iload 6, 2) := by decide +kernel
theorem d_M_write_81 : decode b_M_write 81 = .ok (.aload_n 0, 1) := by decide +kernel
theorem d_M_write_82 : decode b_M_write 82 = .ok (.getfield 123, 3) := by decide +kernel
theorem d_M_write_85 : decode b_M_write 85 = .ok (.if_icmp .ge 29, 3) := by decide +kernel
theorem d_M_write_88 : decode b_M_write 88 = .ok (.aload_n 0, 1) := by decide +kernel
theorem d_M_write_89 : decode b_M_write 89 = .ok (.getfield 31, 3) := by decide +kernel
theorem d_M_write_92 : decode b_M_write 92 = .ok (.bipush 10, 2) := by decide +kernel
theorem d_M_write_94 : decode b_M_write 94 = .ok (.iload 5, 2) := by decide +kernel
theorem d_M_write_96 : decode b_M_write 96 = .ok (.imul, 1) := by decide +kernel
theorem d_M_write_97 : decode b_M_write 97 = .ok (.iload 6, 2) := by decide +kernel
theorem d_M_write_99 : decode b_M_write 99 = .ok (.iadd, 1) := by decide +kernel
theorem d_M_write_100 : decode b_M_write 100 = .ok (.aload_n 0, 1) := by decide +kernel
theorem d_M_write_101 : decode b_M_write 101 = .ok (.getfield 80, 3) := by decide +kernel
theorem d_M_write_104 : decode b_M_write 104 = .ok (.iload 6, 2) := by decide +kernel
theorem d_M_write_106 : decode b_M_write 106 = .ok (.iaload, 1) := by decide +kernel
theorem d_M_write_107 : decode b_M_write 107 = .ok (.iastore, 1) := by decide +kernel
theorem d_M_write_108 : decode b_M_write 108 = .ok (.iinc 6 1, 3) := by decide +kernel
theorem d_M_write_111 : decode b_M_write 111 = .ok (.goto (-32), 3) := by decide +kernel
theorem d_M_write_114 : decode b_M_write 114 = .ok (.iconst 0, 1) := by decide +kernel
theorem d_M_write_115 : decode b_M_write 115 = .ok (.istore 6, 2) := by decide +kernel
theorem d_M_write_117 : decode b_M_write 117 = .ok (.iload 6, 2) := by decide +kernel
theorem d_M_write_119 : decode b_M_write 119 = .ok (.aload_n 0, 1) := by decide +kernel
theorem d_M_write_120 : decode b_M_write 120 = .ok (.getfield 126, 3) := by decide +kernel
theorem d_M_write_123 : decode b_M_write 123 = .ok (.if_icmp .ge 29, 3) := by decide +kernel
theorem d_M_write_126 : decode b_M_write 126 = .ok (.aload_n 0, 1) := by decide +kernel
theorem d_M_write_127 : decode b_M_write 127 = .ok (.getfield 34, 3) := by decide +kernel
theorem d_M_write_130 : decode b_M_write 130 = .ok (.bipush 10, 2) := by decide +kernel
theorem d_M_write_132 : decode b_M_write 132 = .ok (.iload 5, 2) := by decide +kernel
theorem d_M_write_134 : decode b_M_write 134 = .ok (.imul, 1) := by decide +kernel
theorem d_M_write_135 : decode b_M_write 135 = .ok (.iload 6, 2) := by decide +kernel
theorem d_M_write_137 : decode b_M_write 137 = .ok (.iadd, 1) := by decide +kernel
theorem d_M_write_138 : decode b_M_write 138 = .ok (.aload_n 0, 1) := by decide +kernel
theorem d_M_write_139 : decode b_M_write 139 = .ok (.getfield 83, 3) := by decide +kernel
theorem d_M_write_142 : decode b_M_write 142 = .ok (.iload 6, 2) := by decide +kernel
theorem d_M_write_144 : decode b_M_write 144 = .ok (.iaload, 1) := by decide +kernel
theorem d_M_write_145 : decode b_M_write 145 = .ok (.iastore, 1) := by decide +kernel
theorem d_M_write_146 : decode b_M_write 146 = .ok (.iinc 6 1, 3) := by decide +kernel
theorem d_M_write_149 : decode b_M_write 149 = .ok (.goto (-32), 3) := by decide +kernel
theorem d_M_write_152 : decode b_M_write 152 = .ok (.aload_n 0, 1) := by decide +kernel
theorem d_M_write_153 : decode b_M_write 153 = .ok (.getfield 40, 3) := by decide +kernel
theorem d_M_write_156 : decode b_M_write 156 = .ok (.iconst 4, 1) := by decide +kernel
theorem d_M_write_157 : decode b_M_write 157 = .ok (.dup2, 1) := by decide +kernel
theorem d_M_write_158 : decode b_M_write 158 = .ok (.iaload, 1) := by decide +kernel
theorem d_M_write_159 : decode b_M_write 159 = .ok (.iconst 1, 1) := by decide +kernel
theorem d_M_write_160 : decode b_M_write 160 = .ok (.iadd, 1) := by decide +kernel
theorem d_M_write_161 : decode b_M_write 161 = .ok (.iastore, 1) := by decide +kernel
theorem d_M_write_162 : decode b_M_write 162 = .ok (.iload 5, 2) := by decide +kernel
theorem d_M_write_164 : decode b_M_write 164 = .ok (.ireturn, 1) := by decide +kernel

abbrev b_M_isFull : ByteArray := prog_9_method_21_code
def y_M_isFull : MethodName := ⟨"RegistryLogModel", "isFull", "()Z"⟩
theorem d_M_isFull_0 : decode b_M_isFull 0 = .ok (.aload_n 0, 1) := by decide +kernel
theorem d_M_isFull_1 : decode b_M_isFull 1 = .ok (.getfield 40, 3) := by decide +kernel
theorem d_M_isFull_4 : decode b_M_isFull 4 = .ok (.iconst 4, 1) := by decide +kernel
theorem d_M_isFull_5 : decode b_M_isFull 5 = .ok (.iaload, 1) := by decide +kernel
theorem d_M_isFull_6 : decode b_M_isFull 6 = .ok (.bipush 120, 2) := by decide +kernel
theorem d_M_isFull_8 : decode b_M_isFull 8 = .ok (.if_icmp .ne 7, 3) := by decide +kernel
theorem d_M_isFull_11 : decode b_M_isFull 11 = .ok (.iconst 1, 1) := by decide +kernel
theorem d_M_isFull_12 : decode b_M_isFull 12 = .ok (.goto 4, 3) := by decide +kernel
theorem d_M_isFull_15 : decode b_M_isFull 15 = .ok (.iconst 0, 1) := by decide +kernel
theorem d_M_isFull_16 : decode b_M_isFull 16 = .ok (.ireturn, 1) := by decide +kernel

abbrev b_M_publish : ByteArray := prog_9_method_22_code
def y_M_publish : MethodName := ⟨"RegistryLogModel", "publish", "(III)I"⟩
theorem d_M_publish_0 : decode b_M_publish 0 = .ok (.aload_n 0, 1) := by decide +kernel
theorem d_M_publish_1 : decode b_M_publish 1 = .ok (.iconst 0, 1) := by decide +kernel
theorem d_M_publish_2 : decode b_M_publish 2 = .ok (.invokevirtual 161, 3) := by decide +kernel
theorem d_M_publish_5 : decode b_M_publish 5 = .ok (.ifCond .eq 17, 3) := by decide +kernel
theorem d_M_publish_8 : decode b_M_publish 8 = .ok (.iload_n 1, 1) := by decide +kernel
theorem d_M_publish_9 : decode b_M_publish 9 = .ok (.invokestatic 165, 3) := by decide +kernel
theorem d_M_publish_12 : decode b_M_publish 12 = .ok (.ifCond .eq 10, 3) := by decide +kernel
theorem d_M_publish_15 : decode b_M_publish 15 = .ok (.iload_n 2, 1) := by decide +kernel
theorem d_M_publish_16 : decode b_M_publish 16 = .ok (.invokestatic 168, 3) := by decide +kernel
theorem d_M_publish_19 : decode b_M_publish 19 = .ok (.ifCond .ne 7, 3) := by decide +kernel
theorem d_M_publish_22 : decode b_M_publish 22 = .ok (.iconst 1, 1) := by decide +kernel
theorem d_M_publish_23 : decode b_M_publish 23 = .ok (.goto 4, 3) := by decide +kernel
theorem d_M_publish_26 : decode b_M_publish 26 = .ok (.iconst 0, 1) := by decide +kernel
theorem d_M_publish_27 : decode b_M_publish 27 = .ok (.istore 4, 2) := by decide +kernel
theorem d_M_publish_29 : decode b_M_publish 29 = .ok (.aload_n 0, 1) := by decide +kernel
theorem d_M_publish_30 : decode b_M_publish 30 = .ok (.iconst 4, 1) := by decide +kernel
theorem d_M_publish_31 : decode b_M_publish 31 = .ok (.invokevirtual 171, 3) := by decide +kernel
theorem d_M_publish_34 : decode b_M_publish 34 = .ok (.iload 4, 2) := by decide +kernel
theorem d_M_publish_36 : decode b_M_publish 36 = .ok (.ifCond .eq 7, 3) := by decide +kernel
theorem d_M_publish_39 : decode b_M_publish 39 = .ok (.iconst (-1), 1) := by decide +kernel
theorem d_M_publish_40 : decode b_M_publish 40 = .ok (.goto 16, 3) := by decide +kernel
theorem d_M_publish_43 : decode b_M_publish 43 = .ok (.aload_n 0, 1) := by decide +kernel
theorem d_M_publish_44 : decode b_M_publish 44 = .ok (.aload_n 0, 1) := by decide +kernel
theorem d_M_publish_45 : decode b_M_publish 45 = .ok (.getfield 80, 3) := by decide +kernel
theorem d_M_publish_48 : decode b_M_publish 48 = .ok (.iconst 0, 1) := by decide +kernel
theorem d_M_publish_49 : decode b_M_publish 49 = .ok (.aload_n 0, 1) := by decide +kernel
theorem d_M_publish_50 : decode b_M_publish 50 = .ok (.getfield 123, 3) := by decide +kernel
theorem d_M_publish_53 : decode b_M_publish 53 = .ok (.invokevirtual 142, 3) := by decide +kernel
theorem d_M_publish_56 : decode b_M_publish 56 = .ok (.istore 5, 2) := by decide +kernel
theorem d_M_publish_58 : decode b_M_publish 58 = .ok (.iload 4, 2) := by decide +kernel
theorem d_M_publish_60 : decode b_M_publish 60 = .ok (.ifCond .ne 58, 3) := by decide +kernel
theorem d_M_publish_63 : decode b_M_publish 63 = .ok (.iload 5, 2) := by decide +kernel
theorem d_M_publish_65 : decode b_M_publish 65 = .ok (.iconst (-1), 1) := by decide +kernel
theorem d_M_publish_66 : decode b_M_publish 66 = .ok (.if_icmp .ne 22, 3) := by decide +kernel
theorem d_M_publish_69 : decode b_M_publish 69 = .ok (.aload_n 0, 1) := by decide +kernel
theorem d_M_publish_70 : decode b_M_publish 70 = .ok (.aload_n 0, 1) := by decide +kernel
theorem d_M_publish_71 : decode b_M_publish 71 = .ok (.getfield 80, 3) := by decide +kernel
theorem d_M_publish_74 : decode b_M_publish 74 = .ok (.aload_n 0, 1) := by decide +kernel
theorem d_M_publish_75 : decode b_M_publish 75 = .ok (.getfield 123, 3) := by decide +kernel
theorem d_M_publish_78 : decode b_M_publish 78 = .ok (.iconst (-1), 1) := by decide +kernel
theorem d_M_publish_79 : decode b_M_publish 79 = .ok (.invokevirtual 175, 3) := by decide +kernel
theorem d_M_publish_82 : decode b_M_publish 82 = .ok (.ifCond .eq 36, 3) := by decide +kernel
theorem d_M_publish_85 : decode b_M_publish 85 = .ok (.goto 29, 3) := by decide +kernel
theorem d_M_publish_88 : decode b_M_publish 88 = .ok (.aload_n 0, 1) := by decide +kernel
theorem d_M_publish_89 : decode b_M_publish 89 = .ok (.iload 5, 2) := by decide +kernel
theorem d_M_publish_91 : decode b_M_publish 91 = .ok (.iload_n 1, 1) := by decide +kernel
theorem d_M_publish_92 : decode b_M_publish 92 = .ok (.invokevirtual 178, 3) := by decide +kernel
theorem d_M_publish_95 : decode b_M_publish 95 = .ok (.ifCond .eq 23, 3) := by decide +kernel
theorem d_M_publish_98 : decode b_M_publish 98 = .ok (.aload_n 0, 1) := by decide +kernel
theorem d_M_publish_99 : decode b_M_publish 99 = .ok (.aload_n 0, 1) := by decide +kernel
theorem d_M_publish_100 : decode b_M_publish 100 = .ok (.getfield 59, 3) := by decide +kernel
theorem d_M_publish_103 : decode b_M_publish 103 = .ok (.iload 5, 2) := by decide +kernel
theorem d_M_publish_105 : decode b_M_publish 105 = .ok (.iaload, 1) := by decide +kernel
theorem d_M_publish_106 : decode b_M_publish 106 = .ok (.iload_n 2, 1) := by decide +kernel
theorem d_M_publish_107 : decode b_M_publish 107 = .ok (.invokevirtual 150, 3) := by decide +kernel
theorem d_M_publish_110 : decode b_M_publish 110 = .ok (.iconst (-1), 1) := by decide +kernel
theorem d_M_publish_111 : decode b_M_publish 111 = .ok (.if_icmp .ne 7, 3) := by decide +kernel
theorem d_M_publish_114 : decode b_M_publish 114 = .ok (.iconst 1, 1) := by decide +kernel
theorem d_M_publish_115 : decode b_M_publish 115 = .ok (.goto 4, 3) := by decide +kernel
theorem d_M_publish_118 : decode b_M_publish 118 = .ok (.iconst 0, 1) := by decide +kernel
theorem d_M_publish_119 : decode b_M_publish 119 = .ok (.istore 6, 2) := by decide +kernel
theorem d_M_publish_121 : decode b_M_publish 121 = .ok (.aload_n 0, 1) := by decide +kernel
theorem d_M_publish_122 : decode b_M_publish 122 = .ok (.iload 4, 2) := by decide +kernel
theorem d_M_publish_124 : decode b_M_publish 124 = .ok (.iload 6, 2) := by decide +kernel
theorem d_M_publish_126 : decode b_M_publish 126 = .ok (.ifCond .eq 10, 3) := by decide +kernel
theorem d_M_publish_129 : decode b_M_publish 129 = .ok (.aload_n 0, 1) := by decide +kernel
theorem d_M_publish_130 : decode b_M_publish 130 = .ok (.invokevirtual 181, 3) := by decide +kernel
theorem d_M_publish_133 : decode b_M_publish 133 = .ok (.ifCond .eq 7, 3) := by decide +kernel
theorem d_M_publish_136 : decode b_M_publish 136 = .ok (.iconst 1, 1) := by decide +kernel
theorem d_M_publish_137 : decode b_M_publish 137 = .ok (.goto 4, 3) := by decide +kernel
theorem d_M_publish_140 : decode b_M_publish 140 = .ok (.iconst 0, 1) := by decide +kernel
theorem d_M_publish_141 : decode b_M_publish 141 = .ok (.invokevirtual 185, 3) := by decide +kernel
theorem d_M_publish_144 : decode b_M_publish 144 = .ok (.ifCond .eq 7, 3) := by decide +kernel
theorem d_M_publish_147 : decode b_M_publish 147 = .ok (.iconst 0, 1) := by decide +kernel
theorem d_M_publish_148 : decode b_M_publish 148 = .ok (.goto 11, 3) := by decide +kernel
theorem d_M_publish_151 : decode b_M_publish 151 = .ok (.aload_n 0, 1) := by decide +kernel
theorem d_M_publish_152 : decode b_M_publish 152 = .ok (.iconst 0, 1) := by decide +kernel
theorem d_M_publish_153 : decode b_M_publish 153 = .ok (.iload_n 1, 1) := by decide +kernel
theorem d_M_publish_154 : decode b_M_publish 154 = .ok (.iload_n 2, 1) := by decide +kernel
theorem d_M_publish_155 : decode b_M_publish 155 = .ok (.iload_n 3, 1) := by decide +kernel
theorem d_M_publish_156 : decode b_M_publish 156 = .ok (.invokevirtual 189, 3) := by decide +kernel
theorem d_M_publish_159 : decode b_M_publish 159 = .ok (.ireturn, 1) := by decide +kernel

abbrev b_M_yank : ByteArray := prog_9_method_23_code
def y_M_yank : MethodName := ⟨"RegistryLogModel", "yank", "(IIZ)I"⟩
theorem d_M_yank_0 : decode b_M_yank 0 = .ok (.aload_n 0, 1) := by decide +kernel
theorem d_M_yank_1 : decode b_M_yank 1 = .ok (.iconst 0, 1) := by decide +kernel
theorem d_M_yank_2 : decode b_M_yank 2 = .ok (.invokevirtual 161, 3) := by decide +kernel
theorem d_M_yank_5 : decode b_M_yank 5 = .ok (.ifCond .eq 17, 3) := by decide +kernel
theorem d_M_yank_8 : decode b_M_yank 8 = .ok (.iload_n 1, 1) := by decide +kernel
theorem d_M_yank_9 : decode b_M_yank 9 = .ok (.invokestatic 165, 3) := by decide +kernel
theorem d_M_yank_12 : decode b_M_yank 12 = .ok (.ifCond .eq 10, 3) := by decide +kernel
theorem d_M_yank_15 : decode b_M_yank 15 = .ok (.iload_n 2, 1) := by decide +kernel
theorem d_M_yank_16 : decode b_M_yank 16 = .ok (.invokestatic 168, 3) := by decide +kernel
theorem d_M_yank_19 : decode b_M_yank 19 = .ok (.ifCond .ne 7, 3) := by decide +kernel
theorem d_M_yank_22 : decode b_M_yank 22 = .ok (.iconst 1, 1) := by decide +kernel
theorem d_M_yank_23 : decode b_M_yank 23 = .ok (.goto 4, 3) := by decide +kernel
theorem d_M_yank_26 : decode b_M_yank 26 = .ok (.iconst 0, 1) := by decide +kernel
theorem d_M_yank_27 : decode b_M_yank 27 = .ok (.istore 4, 2) := by decide +kernel
theorem d_M_yank_29 : decode b_M_yank 29 = .ok (.aload_n 0, 1) := by decide +kernel
theorem d_M_yank_30 : decode b_M_yank 30 = .ok (.iconst 4, 1) := by decide +kernel
theorem d_M_yank_31 : decode b_M_yank 31 = .ok (.invokevirtual 171, 3) := by decide +kernel
theorem d_M_yank_34 : decode b_M_yank 34 = .ok (.iload 4, 2) := by decide +kernel
theorem d_M_yank_36 : decode b_M_yank 36 = .ok (.ifCond .eq 7, 3) := by decide +kernel
theorem d_M_yank_39 : decode b_M_yank 39 = .ok (.iconst (-1), 1) := by decide +kernel
theorem d_M_yank_40 : decode b_M_yank 40 = .ok (.goto 16, 3) := by decide +kernel
theorem d_M_yank_43 : decode b_M_yank 43 = .ok (.aload_n 0, 1) := by decide +kernel
theorem d_M_yank_44 : decode b_M_yank 44 = .ok (.aload_n 0, 1) := by decide +kernel
theorem d_M_yank_45 : decode b_M_yank 45 = .ok (.getfield 80, 3) := by decide +kernel
theorem d_M_yank_48 : decode b_M_yank 48 = .ok (.iconst 0, 1) := by decide +kernel
theorem d_M_yank_49 : decode b_M_yank 49 = .ok (.aload_n 0, 1) := by decide +kernel
theorem d_M_yank_50 : decode b_M_yank 50 = .ok (.getfield 123, 3) := by decide +kernel
theorem d_M_yank_53 : decode b_M_yank 53 = .ok (.invokevirtual 142, 3) := by decide +kernel
theorem d_M_yank_56 : decode b_M_yank 56 = .ok (.istore 5, 2) := by decide +kernel
theorem d_M_yank_58 : decode b_M_yank 58 = .ok (.iload 5, 2) := by decide +kernel
theorem d_M_yank_60 : decode b_M_yank 60 = .ok (.iconst (-1), 1) := by decide +kernel
theorem d_M_yank_61 : decode b_M_yank 61 = .ok (.if_icmp .ne 7, 3) := by decide +kernel
theorem d_M_yank_64 : decode b_M_yank 64 = .ok (.iconst (-1), 1) := by decide +kernel
theorem d_M_yank_65 : decode b_M_yank 65 = .ok (.goto 15, 3) := by decide +kernel
theorem d_M_yank_68 : decode b_M_yank 68 = .ok (.aload_n 0, 1) := by decide +kernel
theorem d_M_yank_69 : decode b_M_yank 69 = .ok (.aload_n 0, 1) := by decide +kernel
theorem d_M_yank_70 : decode b_M_yank 70 = .ok (.getfield 59, 3) := by decide +kernel
theorem d_M_yank_73 : decode b_M_yank 73 = .ok (.iload 5, 2) := by decide +kernel
theorem d_M_yank_75 : decode b_M_yank 75 = .ok (.iaload, 1) := by decide +kernel
theorem d_M_yank_76 : decode b_M_yank 76 = .ok (.iload_n 2, 1) := by decide +kernel
theorem d_M_yank_77 : decode b_M_yank 77 = .ok (.invokevirtual 150, 3) := by decide +kernel
theorem d_M_yank_80 : decode b_M_yank 80 = .ok (.istore 6, 2) := by decide +kernel
theorem d_M_yank_82 : decode b_M_yank 82 = .ok (.iload 4, 2) := by decide +kernel
theorem d_M_yank_84 : decode b_M_yank 84 = .ok (.ifCond .ne 43, 3) := by decide +kernel
theorem d_M_yank_87 : decode b_M_yank 87 = .ok (.aload_n 0, 1) := by decide +kernel
theorem d_M_yank_88 : decode b_M_yank 88 = .ok (.iload 5, 2) := by decide +kernel
theorem d_M_yank_90 : decode b_M_yank 90 = .ok (.iload_n 1, 1) := by decide +kernel
theorem d_M_yank_91 : decode b_M_yank 91 = .ok (.invokevirtual 178, 3) := by decide +kernel
theorem d_M_yank_94 : decode b_M_yank 94 = .ok (.ifCond .eq 33, 3) := by decide +kernel
theorem d_M_yank_97 : decode b_M_yank 97 = .ok (.iload 6, 2) := by decide +kernel
theorem d_M_yank_99 : decode b_M_yank 99 = .ok (.iconst (-1), 1) := by decide +kernel
theorem d_M_yank_100 : decode b_M_yank 100 = .ok (.if_icmp .eq 27, 3) := by decide +kernel
theorem d_M_yank_103 : decode b_M_yank 103 = .ok (.aload_n 0, 1) := by decide +kernel
theorem d_M_yank_104 : decode b_M_yank 104 = .ok (.getfield 77, 3) := by decide +kernel
theorem d_M_yank_107 : decode b_M_yank 107 = .ok (.iload 6, 2) := by decide +kernel
theorem d_M_yank_109 : decode b_M_yank 109 = .ok (.iaload, 1) := by decide +kernel
theorem d_M_yank_110 : decode b_M_yank 110 = .ok (.iconst 1, 1) := by decide +kernel
theorem d_M_yank_111 : decode b_M_yank 111 = .ok (.if_icmp .ne 7, 3) := by decide +kernel
theorem d_M_yank_114 : decode b_M_yank 114 = .ok (.iconst 1, 1) := by decide +kernel
theorem d_M_yank_115 : decode b_M_yank 115 = .ok (.goto 4, 3) := by decide +kernel
theorem d_M_yank_118 : decode b_M_yank 118 = .ok (.iconst 0, 1) := by decide +kernel
theorem d_M_yank_119 : decode b_M_yank 119 = .ok (.iload_n 3, 1) := by decide +kernel
theorem d_M_yank_120 : decode b_M_yank 120 = .ok (.if_icmp .eq 7, 3) := by decide +kernel
theorem d_M_yank_123 : decode b_M_yank 123 = .ok (.iconst 1, 1) := by decide +kernel
theorem d_M_yank_124 : decode b_M_yank 124 = .ok (.goto 4, 3) := by decide +kernel
theorem d_M_yank_127 : decode b_M_yank 127 = .ok (.iconst 0, 1) := by decide +kernel
theorem d_M_yank_128 : decode b_M_yank 128 = .ok (.istore 7, 2) := by decide +kernel
theorem d_M_yank_130 : decode b_M_yank 130 = .ok (.aload_n 0, 1) := by decide +kernel
theorem d_M_yank_131 : decode b_M_yank 131 = .ok (.iload 4, 2) := by decide +kernel
theorem d_M_yank_133 : decode b_M_yank 133 = .ok (.iload 7, 2) := by decide +kernel
theorem d_M_yank_135 : decode b_M_yank 135 = .ok (.ifCond .eq 10, 3) := by decide +kernel
theorem d_M_yank_138 : decode b_M_yank 138 = .ok (.aload_n 0, 1) := by decide +kernel
theorem d_M_yank_139 : decode b_M_yank 139 = .ok (.invokevirtual 181, 3) := by decide +kernel
theorem d_M_yank_142 : decode b_M_yank 142 = .ok (.ifCond .eq 7, 3) := by decide +kernel
theorem d_M_yank_145 : decode b_M_yank 145 = .ok (.iconst 1, 1) := by decide +kernel
theorem d_M_yank_146 : decode b_M_yank 146 = .ok (.goto 4, 3) := by decide +kernel
theorem d_M_yank_149 : decode b_M_yank 149 = .ok (.iconst 0, 1) := by decide +kernel
theorem d_M_yank_150 : decode b_M_yank 150 = .ok (.invokevirtual 185, 3) := by decide +kernel
theorem d_M_yank_153 : decode b_M_yank 153 = .ok (.ifCond .eq 7, 3) := by decide +kernel
theorem d_M_yank_156 : decode b_M_yank 156 = .ok (.iconst 0, 1) := by decide +kernel
theorem d_M_yank_157 : decode b_M_yank 157 = .ok (.goto 19, 3) := by decide +kernel
theorem d_M_yank_160 : decode b_M_yank 160 = .ok (.aload_n 0, 1) := by decide +kernel
theorem d_M_yank_161 : decode b_M_yank 161 = .ok (.iconst 1, 1) := by decide +kernel
theorem d_M_yank_162 : decode b_M_yank 162 = .ok (.iload_n 1, 1) := by decide +kernel
theorem d_M_yank_163 : decode b_M_yank 163 = .ok (.iload_n 2, 1) := by decide +kernel
theorem d_M_yank_164 : decode b_M_yank 164 = .ok (.iload_n 3, 1) := by decide +kernel
theorem d_M_yank_165 : decode b_M_yank 165 = .ok (.ifCond .eq 7, 3) := by decide +kernel
theorem d_M_yank_168 : decode b_M_yank 168 = .ok (.iconst 1, 1) := by decide +kernel
theorem d_M_yank_169 : decode b_M_yank 169 = .ok (.goto 4, 3) := by decide +kernel
theorem d_M_yank_172 : decode b_M_yank 172 = .ok (.iconst 0, 1) := by decide +kernel
theorem d_M_yank_173 : decode b_M_yank 173 = .ok (.invokevirtual 189, 3) := by decide +kernel
theorem d_M_yank_176 : decode b_M_yank 176 = .ok (.ireturn, 1) := by decide +kernel

abbrev b_M_grant : ByteArray := prog_9_method_24_code
def y_M_grant : MethodName := ⟨"RegistryLogModel", "grant", "(IIZ)I"⟩
theorem d_M_grant_0 : decode b_M_grant 0 = .ok (.aload_n 0, 1) := by decide +kernel
theorem d_M_grant_1 : decode b_M_grant 1 = .ok (.iconst 0, 1) := by decide +kernel
theorem d_M_grant_2 : decode b_M_grant 2 = .ok (.invokevirtual 161, 3) := by decide +kernel
theorem d_M_grant_5 : decode b_M_grant 5 = .ok (.ifCond .eq 17, 3) := by decide +kernel
theorem d_M_grant_8 : decode b_M_grant 8 = .ok (.iload_n 1, 1) := by decide +kernel
theorem d_M_grant_9 : decode b_M_grant 9 = .ok (.invokestatic 165, 3) := by decide +kernel
theorem d_M_grant_12 : decode b_M_grant 12 = .ok (.ifCond .eq 10, 3) := by decide +kernel
theorem d_M_grant_15 : decode b_M_grant 15 = .ok (.iload_n 2, 1) := by decide +kernel
theorem d_M_grant_16 : decode b_M_grant 16 = .ok (.invokestatic 165, 3) := by decide +kernel
theorem d_M_grant_19 : decode b_M_grant 19 = .ok (.ifCond .ne 7, 3) := by decide +kernel
theorem d_M_grant_22 : decode b_M_grant 22 = .ok (.iconst 1, 1) := by decide +kernel
theorem d_M_grant_23 : decode b_M_grant 23 = .ok (.goto 4, 3) := by decide +kernel
theorem d_M_grant_26 : decode b_M_grant 26 = .ok (.iconst 0, 1) := by decide +kernel
theorem d_M_grant_27 : decode b_M_grant 27 = .ok (.istore 4, 2) := by decide +kernel
theorem d_M_grant_29 : decode b_M_grant 29 = .ok (.aload_n 0, 1) := by decide +kernel
theorem d_M_grant_30 : decode b_M_grant 30 = .ok (.iconst 4, 1) := by decide +kernel
theorem d_M_grant_31 : decode b_M_grant 31 = .ok (.invokevirtual 171, 3) := by decide +kernel
theorem d_M_grant_34 : decode b_M_grant 34 = .ok (.iload 4, 2) := by decide +kernel
theorem d_M_grant_36 : decode b_M_grant 36 = .ok (.ifCond .eq 7, 3) := by decide +kernel
theorem d_M_grant_39 : decode b_M_grant 39 = .ok (.iconst (-1), 1) := by decide +kernel
theorem d_M_grant_40 : decode b_M_grant 40 = .ok (.goto 16, 3) := by decide +kernel
theorem d_M_grant_43 : decode b_M_grant 43 = .ok (.aload_n 0, 1) := by decide +kernel
theorem d_M_grant_44 : decode b_M_grant 44 = .ok (.aload_n 0, 1) := by decide +kernel
theorem d_M_grant_45 : decode b_M_grant 45 = .ok (.getfield 80, 3) := by decide +kernel
theorem d_M_grant_48 : decode b_M_grant 48 = .ok (.iconst 0, 1) := by decide +kernel
theorem d_M_grant_49 : decode b_M_grant 49 = .ok (.aload_n 0, 1) := by decide +kernel
theorem d_M_grant_50 : decode b_M_grant 50 = .ok (.getfield 123, 3) := by decide +kernel
theorem d_M_grant_53 : decode b_M_grant 53 = .ok (.invokevirtual 142, 3) := by decide +kernel
theorem d_M_grant_56 : decode b_M_grant 56 = .ok (.istore 5, 2) := by decide +kernel
theorem d_M_grant_58 : decode b_M_grant 58 = .ok (.iload 4, 2) := by decide +kernel
theorem d_M_grant_60 : decode b_M_grant 60 = .ok (.ifCond .ne 33, 3) := by decide +kernel
theorem d_M_grant_63 : decode b_M_grant 63 = .ok (.aload_n 0, 1) := by decide +kernel
theorem d_M_grant_64 : decode b_M_grant 64 = .ok (.iload 5, 2) := by decide +kernel
theorem d_M_grant_66 : decode b_M_grant 66 = .ok (.iload_n 1, 1) := by decide +kernel
theorem d_M_grant_67 : decode b_M_grant 67 = .ok (.invokevirtual 193, 3) := by decide +kernel
theorem d_M_grant_70 : decode b_M_grant 70 = .ok (.ifCond .eq 23, 3) := by decide +kernel
theorem d_M_grant_73 : decode b_M_grant 73 = .ok (.iload_n 2, 1) := by decide +kernel
theorem d_M_grant_74 : decode b_M_grant 74 = .ok (.iload_n 1, 1) := by decide +kernel
theorem d_M_grant_75 : decode b_M_grant 75 = .ok (.if_icmp .eq 18, 3) := by decide +kernel
theorem d_M_grant_78 : decode b_M_grant 78 = .ok (.aload_n 0, 1) := by decide +kernel
theorem d_M_grant_79 : decode b_M_grant 79 = .ok (.iload 5, 2) := by decide +kernel
theorem d_M_grant_81 : decode b_M_grant 81 = .ok (.iload_n 2, 1) := by decide +kernel
theorem d_M_grant_82 : decode b_M_grant 82 = .ok (.invokevirtual 178, 3) := by decide +kernel
theorem d_M_grant_85 : decode b_M_grant 85 = .ok (.iload_n 3, 1) := by decide +kernel
theorem d_M_grant_86 : decode b_M_grant 86 = .ok (.if_icmp .eq 7, 3) := by decide +kernel
theorem d_M_grant_89 : decode b_M_grant 89 = .ok (.iconst 1, 1) := by decide +kernel
theorem d_M_grant_90 : decode b_M_grant 90 = .ok (.goto 4, 3) := by decide +kernel
theorem d_M_grant_93 : decode b_M_grant 93 = .ok (.iconst 0, 1) := by decide +kernel
theorem d_M_grant_94 : decode b_M_grant 94 = .ok (.istore 6, 2) := by decide +kernel
theorem d_M_grant_96 : decode b_M_grant 96 = .ok (.aload_n 0, 1) := by decide +kernel
theorem d_M_grant_97 : decode b_M_grant 97 = .ok (.iload 4, 2) := by decide +kernel
theorem d_M_grant_99 : decode b_M_grant 99 = .ok (.iload 6, 2) := by decide +kernel
theorem d_M_grant_101 : decode b_M_grant 101 = .ok (.ifCond .eq 10, 3) := by decide +kernel
theorem d_M_grant_104 : decode b_M_grant 104 = .ok (.aload_n 0, 1) := by decide +kernel
theorem d_M_grant_105 : decode b_M_grant 105 = .ok (.invokevirtual 181, 3) := by decide +kernel
theorem d_M_grant_108 : decode b_M_grant 108 = .ok (.ifCond .eq 7, 3) := by decide +kernel
theorem d_M_grant_111 : decode b_M_grant 111 = .ok (.iconst 1, 1) := by decide +kernel
theorem d_M_grant_112 : decode b_M_grant 112 = .ok (.goto 4, 3) := by decide +kernel
theorem d_M_grant_115 : decode b_M_grant 115 = .ok (.iconst 0, 1) := by decide +kernel
theorem d_M_grant_116 : decode b_M_grant 116 = .ok (.invokevirtual 185, 3) := by decide +kernel
theorem d_M_grant_119 : decode b_M_grant 119 = .ok (.ifCond .eq 7, 3) := by decide +kernel
theorem d_M_grant_122 : decode b_M_grant 122 = .ok (.iconst 0, 1) := by decide +kernel
theorem d_M_grant_123 : decode b_M_grant 123 = .ok (.goto 19, 3) := by decide +kernel
theorem d_M_grant_126 : decode b_M_grant 126 = .ok (.aload_n 0, 1) := by decide +kernel
theorem d_M_grant_127 : decode b_M_grant 127 = .ok (.iconst 2, 1) := by decide +kernel
theorem d_M_grant_128 : decode b_M_grant 128 = .ok (.iload_n 1, 1) := by decide +kernel
theorem d_M_grant_129 : decode b_M_grant 129 = .ok (.iload_n 2, 1) := by decide +kernel
theorem d_M_grant_130 : decode b_M_grant 130 = .ok (.iload_n 3, 1) := by decide +kernel
theorem d_M_grant_131 : decode b_M_grant 131 = .ok (.ifCond .eq 7, 3) := by decide +kernel
theorem d_M_grant_134 : decode b_M_grant 134 = .ok (.iconst 1, 1) := by decide +kernel
theorem d_M_grant_135 : decode b_M_grant 135 = .ok (.goto 4, 3) := by decide +kernel
theorem d_M_grant_138 : decode b_M_grant 138 = .ok (.iconst 0, 1) := by decide +kernel
theorem d_M_grant_139 : decode b_M_grant 139 = .ok (.invokevirtual 189, 3) := by decide +kernel
theorem d_M_grant_142 : decode b_M_grant 142 = .ok (.ireturn, 1) := by decide +kernel

abbrev b_M_move : ByteArray := prog_9_method_25_code
def y_M_move : MethodName := ⟨"RegistryLogModel", "move", "(I)I"⟩
theorem d_M_move_0 : decode b_M_move 0 = .ok (.aload_n 0, 1) := by decide +kernel
theorem d_M_move_1 : decode b_M_move 1 = .ok (.iconst 1, 1) := by decide +kernel
theorem d_M_move_2 : decode b_M_move 2 = .ok (.invokevirtual 161, 3) := by decide +kernel
theorem d_M_move_5 : decode b_M_move 5 = .ok (.ifCond .eq 10, 3) := by decide +kernel
theorem d_M_move_8 : decode b_M_move 8 = .ok (.iload_n 1, 1) := by decide +kernel
theorem d_M_move_9 : decode b_M_move 9 = .ok (.invokestatic 165, 3) := by decide +kernel
theorem d_M_move_12 : decode b_M_move 12 = .ok (.ifCond .ne 7, 3) := by decide +kernel
theorem d_M_move_15 : decode b_M_move 15 = .ok (.iconst 1, 1) := by decide +kernel
theorem d_M_move_16 : decode b_M_move 16 = .ok (.goto 4, 3) := by decide +kernel
theorem d_M_move_19 : decode b_M_move 19 = .ok (.iconst 0, 1) := by decide +kernel
theorem d_M_move_20 : decode b_M_move 20 = .ok (.istore_n 2, 1) := by decide +kernel
theorem d_M_move_21 : decode b_M_move 21 = .ok (.aload_n 0, 1) := by decide +kernel
theorem d_M_move_22 : decode b_M_move 22 = .ok (.iconst 4, 1) := by decide +kernel
theorem d_M_move_23 : decode b_M_move 23 = .ok (.invokevirtual 171, 3) := by decide +kernel
theorem d_M_move_26 : decode b_M_move 26 = .ok (.iload_n 2, 1) := by decide +kernel
theorem d_M_move_27 : decode b_M_move 27 = .ok (.ifCond .eq 7, 3) := by decide +kernel
theorem d_M_move_30 : decode b_M_move 30 = .ok (.iconst (-1), 1) := by decide +kernel
theorem d_M_move_31 : decode b_M_move 31 = .ok (.goto 16, 3) := by decide +kernel
theorem d_M_move_34 : decode b_M_move 34 = .ok (.aload_n 0, 1) := by decide +kernel
theorem d_M_move_35 : decode b_M_move 35 = .ok (.aload_n 0, 1) := by decide +kernel
theorem d_M_move_36 : decode b_M_move 36 = .ok (.getfield 80, 3) := by decide +kernel
theorem d_M_move_39 : decode b_M_move 39 = .ok (.iconst 0, 1) := by decide +kernel
theorem d_M_move_40 : decode b_M_move 40 = .ok (.aload_n 0, 1) := by decide +kernel
theorem d_M_move_41 : decode b_M_move 41 = .ok (.getfield 123, 3) := by decide +kernel
theorem d_M_move_44 : decode b_M_move 44 = .ok (.invokevirtual 142, 3) := by decide +kernel
theorem d_M_move_47 : decode b_M_move 47 = .ok (.istore_n 3, 1) := by decide +kernel
theorem d_M_move_48 : decode b_M_move 48 = .ok (.iload_n 2, 1) := by decide +kernel
theorem d_M_move_49 : decode b_M_move 49 = .ok (.ifCond .ne 32, 3) := by decide +kernel
theorem d_M_move_52 : decode b_M_move 52 = .ok (.aload_n 0, 1) := by decide +kernel
theorem d_M_move_53 : decode b_M_move 53 = .ok (.iload_n 3, 1) := by decide +kernel
theorem d_M_move_54 : decode b_M_move 54 = .ok (.iload_n 1, 1) := by decide +kernel
theorem d_M_move_55 : decode b_M_move 55 = .ok (.invokevirtual 193, 3) := by decide +kernel
theorem d_M_move_58 : decode b_M_move 58 = .ok (.ifCond .eq 23, 3) := by decide +kernel
theorem d_M_move_61 : decode b_M_move 61 = .ok (.aload_n 0, 1) := by decide +kernel
theorem d_M_move_62 : decode b_M_move 62 = .ok (.aload_n 0, 1) := by decide +kernel
theorem d_M_move_63 : decode b_M_move 63 = .ok (.getfield 83, 3) := by decide +kernel
theorem d_M_move_66 : decode b_M_move 66 = .ok (.aload_n 0, 1) := by decide +kernel
theorem d_M_move_67 : decode b_M_move 67 = .ok (.getfield 126, 3) := by decide +kernel
theorem d_M_move_70 : decode b_M_move 70 = .ok (.iload_n 3, 1) := by decide +kernel
theorem d_M_move_71 : decode b_M_move 71 = .ok (.invokevirtual 175, 3) := by decide +kernel
theorem d_M_move_74 : decode b_M_move 74 = .ok (.ifCond .eq 7, 3) := by decide +kernel
theorem d_M_move_77 : decode b_M_move 77 = .ok (.iconst 1, 1) := by decide +kernel
theorem d_M_move_78 : decode b_M_move 78 = .ok (.goto 4, 3) := by decide +kernel
theorem d_M_move_81 : decode b_M_move 81 = .ok (.iconst 0, 1) := by decide +kernel
theorem d_M_move_82 : decode b_M_move 82 = .ok (.istore 4, 2) := by decide +kernel
theorem d_M_move_84 : decode b_M_move 84 = .ok (.aload_n 0, 1) := by decide +kernel
theorem d_M_move_85 : decode b_M_move 85 = .ok (.iload_n 2, 1) := by decide +kernel
theorem d_M_move_86 : decode b_M_move 86 = .ok (.iload 4, 2) := by decide +kernel
theorem d_M_move_88 : decode b_M_move 88 = .ok (.ifCond .eq 10, 3) := by decide +kernel
theorem d_M_move_91 : decode b_M_move 91 = .ok (.aload_n 0, 1) := by decide +kernel
theorem d_M_move_92 : decode b_M_move 92 = .ok (.invokevirtual 181, 3) := by decide +kernel
theorem d_M_move_95 : decode b_M_move 95 = .ok (.ifCond .eq 7, 3) := by decide +kernel
theorem d_M_move_98 : decode b_M_move 98 = .ok (.iconst 1, 1) := by decide +kernel
theorem d_M_move_99 : decode b_M_move 99 = .ok (.goto 4, 3) := by decide +kernel
theorem d_M_move_102 : decode b_M_move 102 = .ok (.iconst 0, 1) := by decide +kernel
theorem d_M_move_103 : decode b_M_move 103 = .ok (.invokevirtual 185, 3) := by decide +kernel
theorem d_M_move_106 : decode b_M_move 106 = .ok (.ifCond .eq 7, 3) := by decide +kernel
theorem d_M_move_109 : decode b_M_move 109 = .ok (.iconst 0, 1) := by decide +kernel
theorem d_M_move_110 : decode b_M_move 110 = .ok (.goto 11, 3) := by decide +kernel
theorem d_M_move_113 : decode b_M_move 113 = .ok (.aload_n 0, 1) := by decide +kernel
theorem d_M_move_114 : decode b_M_move 114 = .ok (.iconst 3, 1) := by decide +kernel
theorem d_M_move_115 : decode b_M_move 115 = .ok (.iload_n 1, 1) := by decide +kernel
theorem d_M_move_116 : decode b_M_move 116 = .ok (.iconst (-1), 1) := by decide +kernel
theorem d_M_move_117 : decode b_M_move 117 = .ok (.iconst 0, 1) := by decide +kernel
theorem d_M_move_118 : decode b_M_move 118 = .ok (.invokevirtual 189, 3) := by decide +kernel
theorem d_M_move_121 : decode b_M_move 121 = .ok (.ireturn, 1) := by decide +kernel

abbrev b_M_rows : ByteArray := prog_9_method_26_code
def y_M_rows : MethodName := ⟨"RegistryLogModel", "rows", "()I"⟩
theorem d_M_rows_0 : decode b_M_rows 0 = .ok (.aload_n 0, 1) := by decide +kernel
theorem d_M_rows_1 : decode b_M_rows 1 = .ok (.iconst 0, 1) := by decide +kernel
theorem d_M_rows_2 : decode b_M_rows 2 = .ok (.putfield 108, 3) := by decide +kernel
theorem d_M_rows_5 : decode b_M_rows 5 = .ok (.aload_n 0, 1) := by decide +kernel
theorem d_M_rows_6 : decode b_M_rows 6 = .ok (.getfield 40, 3) := by decide +kernel
theorem d_M_rows_9 : decode b_M_rows 9 = .ok (.iconst 4, 1) := by decide +kernel
theorem d_M_rows_10 : decode b_M_rows 10 = .ok (.iaload, 1) := by decide +kernel
theorem d_M_rows_11 : decode b_M_rows 11 = .ok (.ireturn, 1) := by decide +kernel

abbrev b_M_isRow : ByteArray := prog_9_method_27_code
def y_M_isRow : MethodName := ⟨"RegistryLogModel", "isRow", "(I)Z"⟩
theorem d_M_isRow_0 : decode b_M_isRow 0 = .ok (.iload_n 1, 1) := by decide +kernel
theorem d_M_isRow_1 : decode b_M_isRow 1 = .ok (.ifCond .lt 17, 3) := by decide +kernel
theorem d_M_isRow_4 : decode b_M_isRow 4 = .ok (.iload_n 1, 1) := by decide +kernel
theorem d_M_isRow_5 : decode b_M_isRow 5 = .ok (.aload_n 0, 1) := by decide +kernel
theorem d_M_isRow_6 : decode b_M_isRow 6 = .ok (.getfield 40, 3) := by decide +kernel
theorem d_M_isRow_9 : decode b_M_isRow 9 = .ok (.iconst 4, 1) := by decide +kernel
theorem d_M_isRow_10 : decode b_M_isRow 10 = .ok (.iaload, 1) := by decide +kernel
theorem d_M_isRow_11 : decode b_M_isRow 11 = .ok (.if_icmp .ge 7, 3) := by decide +kernel
theorem d_M_isRow_14 : decode b_M_isRow 14 = .ok (.iconst 1, 1) := by decide +kernel
theorem d_M_isRow_15 : decode b_M_isRow 15 = .ok (.goto 4, 3) := by decide +kernel
theorem d_M_isRow_18 : decode b_M_isRow 18 = .ok (.iconst 0, 1) := by decide +kernel
theorem d_M_isRow_19 : decode b_M_isRow 19 = .ok (.ireturn, 1) := by decide +kernel
end
section
abbrev b_M_row : ByteArray := prog_9_method_28_code
def y_M_row : MethodName := ⟨"RegistryLogModel", "row", "(II)I"⟩
theorem d_M_row_0 : decode b_M_row 0 = .ok (.aload_n 0, 1) := by decide +kernel
theorem d_M_row_1 : decode b_M_row 1 = .ok (.iconst 0, 1) := by decide +kernel
theorem d_M_row_2 : decode b_M_row 2 = .ok (.putfield 108, 3) := by decide +kernel
theorem d_M_row_5 : decode b_M_row 5 = .ok (.aload_n 0, 1) := by decide +kernel
theorem d_M_row_6 : decode b_M_row 6 = .ok (.iload_n 1, 1) := by decide +kernel
theorem d_M_row_7 : decode b_M_row 7 = .ok (.invokevirtual 196, 3) := by decide +kernel
theorem d_M_row_10 : decode b_M_row 10 = .ok (.ifCond .ne 5, 3) := by decide +kernel
theorem d_M_row_13 : decode b_M_row 13 = .ok (.iconst (-1), 1) := by decide +kernel
theorem d_M_row_14 : decode b_M_row 14 = .ok (.ireturn, 1) := by decide +kernel
theorem d_M_row_15 : decode b_M_row 15 = .ok (.iload_n 2, 1) := by decide +kernel
theorem d_M_row_16 : decode b_M_row 16 = .ok (.ifCond .ne 12, 3) := by decide +kernel
theorem d_M_row_19 : decode b_M_row 19 = .ok (.aload_n 0, 1) := by decide +kernel
theorem d_M_row_20 : decode b_M_row 20 = .ok (.getfield 13, 3) := by decide +kernel
theorem d_M_row_23 : decode b_M_row 23 = .ok (.iload_n 1, 1) := by decide +kernel
theorem d_M_row_24 : decode b_M_row 24 = .ok (.iaload, 1) := by decide +kernel
theorem d_M_row_25 : decode b_M_row 25 = .ok (.goto 46, 3) := by decide +kernel
theorem d_M_row_28 : decode b_M_row 28 = .ok (.iload_n 2, 1) := by decide +kernel
theorem d_M_row_29 : decode b_M_row 29 = .ok (.iconst 1, 1) := by decide +kernel
theorem d_M_row_30 : decode b_M_row 30 = .ok (.if_icmp .ne 12, 3) := by decide +kernel
theorem d_M_row_33 : decode b_M_row 33 = .ok (.aload_n 0, 1) := by decide +kernel
theorem d_M_row_34 : decode b_M_row 34 = .ok (.getfield 16, 3) := by decide +kernel
theorem d_M_row_37 : decode b_M_row 37 = .ok (.iload_n 1, 1) := by decide +kernel
theorem d_M_row_38 : decode b_M_row 38 = .ok (.iaload, 1) := by decide +kernel
theorem d_M_row_39 : decode b_M_row 39 = .ok (.goto 32, 3) := by decide +kernel
theorem d_M_row_42 : decode b_M_row 42 = .ok (.iload_n 2, 1) := by decide +kernel
theorem d_M_row_43 : decode b_M_row 43 = .ok (.iconst 2, 1) := by decide +kernel
theorem d_M_row_44 : decode b_M_row 44 = .ok (.if_icmp .ne 12, 3) := by decide +kernel
theorem d_M_row_47 : decode b_M_row 47 = .ok (.aload_n 0, 1) := by decide +kernel
theorem d_M_row_48 : decode b_M_row 48 = .ok (.getfield 19, 3) := by decide +kernel
theorem d_M_row_51 : decode b_M_row 51 = .ok (.iload_n 1, 1) := by decide +kernel
theorem d_M_row_52 : decode b_M_row 52 = .ok (.iaload, 1) := by decide +kernel
theorem d_M_row_53 : decode b_M_row 53 = .ok (.goto 18, 3) := by decide +kernel
theorem d_M_row_56 : decode b_M_row 56 = .ok (.iload_n 2, 1) := by decide +kernel
theorem d_M_row_57 : decode b_M_row 57 = .ok (.iconst 3, 1) := by decide +kernel
theorem d_M_row_58 : decode b_M_row 58 = .ok (.if_icmp .ne 12, 3) := by decide +kernel
theorem d_M_row_61 : decode b_M_row 61 = .ok (.aload_n 0, 1) := by decide +kernel
theorem d_M_row_62 : decode b_M_row 62 = .ok (.getfield 22, 3) := by decide +kernel
theorem d_M_row_65 : decode b_M_row 65 = .ok (.iload_n 1, 1) := by decide +kernel
theorem d_M_row_66 : decode b_M_row 66 = .ok (.iaload, 1) := by decide +kernel
theorem d_M_row_67 : decode b_M_row 67 = .ok (.goto 4, 3) := by decide +kernel
theorem d_M_row_70 : decode b_M_row 70 = .ok (.iconst (-1), 1) := by decide +kernel
theorem d_M_row_71 : decode b_M_row 71 = .ok (.ireturn, 1) := by decide +kernel

abbrev b_M_mix : ByteArray := prog_9_method_29_code
def y_M_mix : MethodName := ⟨"RegistryLogModel", "mix", "(JJ)J"⟩
theorem d_M_mix_0 : decode b_M_mix 0 = .ok (.lload_n 0, 1) := by decide +kernel
theorem d_M_mix_1 : decode b_M_mix 1 = .ok (.lload_n 2, 1) := by decide +kernel
theorem d_M_mix_2 : decode b_M_mix 2 = .ok (.lxor, 1) := by decide +kernel
theorem d_M_mix_3 : decode b_M_mix 3 = .ok (.ldc2_w 199, 3) := by decide +kernel
theorem d_M_mix_6 : decode b_M_mix 6 = .ok (.lmul, 1) := by decide +kernel
theorem d_M_mix_7 : decode b_M_mix 7 = .ok (.lstore 4, 2) := by decide +kernel
theorem d_M_mix_9 : decode b_M_mix 9 = .ok (.lload 4, 2) := by decide +kernel
theorem d_M_mix_11 : decode b_M_mix 11 = .ok (.lload 4, 2) := by decide +kernel
theorem d_M_mix_13 : decode b_M_mix 13 = .ok (.bipush 29, 2) := by decide +kernel
theorem d_M_mix_15 : decode b_M_mix 15 = .ok (.lushr, 1) := by decide +kernel
theorem d_M_mix_16 : decode b_M_mix 16 = .ok (.lxor, 1) := by decide +kernel
theorem d_M_mix_17 : decode b_M_mix 17 = .ok (.lreturn, 1) := by decide +kernel

abbrev b_M_join : ByteArray := prog_9_method_30_code
def y_M_join : MethodName := ⟨"RegistryLogModel", "join", "(JJ)J"⟩
theorem d_M_join_0 : decode b_M_join 0 = .ok (.lconst 1, 1) := by decide +kernel
theorem d_M_join_1 : decode b_M_join 1 = .ok (.lload_n 0, 1) := by decide +kernel
theorem d_M_join_2 : decode b_M_join 2 = .ok (.invokestatic 201, 3) := by decide +kernel
theorem d_M_join_5 : decode b_M_join 5 = .ok (.lload_n 2, 1) := by decide +kernel
theorem d_M_join_6 : decode b_M_join 6 = .ok (.invokestatic 201, 3) := by decide +kernel
theorem d_M_join_9 : decode b_M_join 9 = .ok (.lreturn, 1) := by decide +kernel

abbrev b_M_digestOf : ByteArray := prog_9_method_31_code
def y_M_digestOf : MethodName := ⟨"RegistryLogModel", "digestOf", "(II)J"⟩
theorem d_M_digestOf_0 : decode b_M_digestOf 0 = .ok (.lconst 0, 1) := by decide +kernel
theorem d_M_digestOf_1 : decode b_M_digestOf 1 = .ok (.aload_n 0, 1) := by decide +kernel
theorem d_M_digestOf_2 : decode b_M_digestOf 2 = .ok (.getfield 13, 3) := by decide +kernel
theorem d_M_digestOf_5 : decode b_M_digestOf 5 = .ok (.iload_n 2, 1) := by decide +kernel
theorem d_M_digestOf_6 : decode b_M_digestOf 6 = .ok (.iaload, 1) := by decide +kernel
theorem d_M_digestOf_7 : decode b_M_digestOf 7 = .ok (.i2l, 1) := by decide +kernel
theorem d_M_digestOf_8 : decode b_M_digestOf 8 = .ok (.invokestatic 201, 3) := by decide +kernel
theorem d_M_digestOf_11 : decode b_M_digestOf 11 = .ok (.aload_n 0, 1) := by decide +kernel
theorem d_M_digestOf_12 : decode b_M_digestOf 12 = .ok (.getfield 16, 3) := by decide +kernel
theorem d_M_digestOf_15 : decode b_M_digestOf 15 = .ok (.iload_n 2, 1) := by decide +kernel
theorem d_M_digestOf_16 : decode b_M_digestOf 16 = .ok (.iaload, 1) := by decide +kernel
theorem d_M_digestOf_17 : decode b_M_digestOf 17 = .ok (.i2l, 1) := by decide +kernel
theorem d_M_digestOf_18 : decode b_M_digestOf 18 = .ok (.invokestatic 201, 3) := by decide +kernel
theorem d_M_digestOf_21 : decode b_M_digestOf 21 = .ok (.lstore_n 3, 1) := by decide +kernel
theorem d_M_digestOf_22 : decode b_M_digestOf 22 = .ok (.iconst 0, 1) := by decide +kernel
theorem d_M_digestOf_23 : decode b_M_digestOf 23 = .ok (.istore 5, 2) := by decide +kernel
theorem d_M_digestOf_25 : decode b_M_digestOf 25 = .ok (.iload 5, 2) := by decide +kernel
theorem d_M_digestOf_27 : decode b_M_digestOf 27 = .ok (.aload_n 0, 1) := by decide +kernel
theorem d_M_digestOf_28 : decode b_M_digestOf 28 = .ok (.getfield 25, 3) := by decide +kernel
theorem d_M_digestOf_31 : decode b_M_digestOf 31 = .ok (.iload_n 2, 1) := by decide +kernel
theorem d_M_digestOf_32 : decode b_M_digestOf 32 = .ok (.iaload, 1) := by decide +kernel
theorem d_M_digestOf_33 : decode b_M_digestOf 33 = .ok (.if_icmp .ge 27, 3) := by decide +kernel
theorem d_M_digestOf_36 : decode b_M_digestOf 36 = .ok (.lload_n 3, 1) := by decide +kernel
theorem d_M_digestOf_37 : decode b_M_digestOf 37 = .ok (.aload_n 0, 1) := by decide +kernel
theorem d_M_digestOf_38 : decode b_M_digestOf 38 = .ok (.getfield 31, 3) := by decide +kernel
theorem d_M_digestOf_41 : decode b_M_digestOf 41 = .ok (.bipush 10, 2) := by decide +kernel
theorem d_M_digestOf_43 : decode b_M_digestOf 43 = .ok (.iload_n 2, 1) := by decide +kernel
theorem d_M_digestOf_44 : decode b_M_digestOf 44 = .ok (.imul, 1) := by decide +kernel
theorem d_M_digestOf_45 : decode b_M_digestOf 45 = .ok (.iload 5, 2) := by decide +kernel
theorem d_M_digestOf_47 : decode b_M_digestOf 47 = .ok (.iadd, 1) := by decide +kernel
theorem d_M_digestOf_48 : decode b_M_digestOf 48 = .ok (.iaload, 1) := by decide +kernel
theorem d_M_digestOf_49 : decode b_M_digestOf 49 = .ok (.i2l, 1) := by decide +kernel
theorem d_M_digestOf_50 : decode b_M_digestOf 50 = .ok (.invokestatic 201, 3) := by decide +kernel
theorem d_M_digestOf_53 : decode b_M_digestOf 53 = .ok (.lstore_n 3, 1) := by decide +kernel
theorem d_M_digestOf_54 : decode b_M_digestOf 54 = .ok (.iinc 5 1, 3) := by decide +kernel
theorem d_M_digestOf_57 : decode b_M_digestOf 57 = .ok (.goto (-32), 3) := by decide +kernel
theorem d_M_digestOf_60 : decode b_M_digestOf 60 = .ok (.lload_n 3, 1) := by decide +kernel
theorem d_M_digestOf_61 : decode b_M_digestOf 61 = .ok (.ldc2_w 205, 3) := by decide +kernel
theorem d_M_digestOf_64 : decode b_M_digestOf 64 = .ok (.invokestatic 201, 3) := by decide +kernel
theorem d_M_digestOf_67 : decode b_M_digestOf 67 = .ok (.lstore_n 3, 1) := by decide +kernel
theorem d_M_digestOf_68 : decode b_M_digestOf 68 = .ok (.aload_n 0, 1) := by decide +kernel
theorem d_M_digestOf_69 : decode b_M_digestOf 69 = .ok (.getfield 13, 3) := by decide +kernel
theorem d_M_digestOf_72 : decode b_M_digestOf 72 = .ok (.iload_n 2, 1) := by decide +kernel
theorem d_M_digestOf_73 : decode b_M_digestOf 73 = .ok (.iaload, 1) := by decide +kernel
theorem d_M_digestOf_74 : decode b_M_digestOf 74 = .ok (.iconst 3, 1) := by decide +kernel
theorem d_M_digestOf_75 : decode b_M_digestOf 75 = .ok (.if_icmp .ge 49, 3) := by decide +kernel
theorem d_M_digestOf_78 : decode b_M_digestOf 78 = .ok (.lload_n 3, 1) := by decide +kernel
theorem d_M_digestOf_79 : decode b_M_digestOf 79 = .ok (.aload_n 0, 1) := by decide +kernel
theorem d_M_digestOf_80 : decode b_M_digestOf 80 = .ok (.getfield 19, 3) := by decide +kernel
theorem d_M_digestOf_83 : decode b_M_digestOf 83 = .ok (.iload_n 2, 1) := by decide +kernel
theorem d_M_digestOf_84 : decode b_M_digestOf 84 = .ok (.iaload, 1) := by decide +kernel
theorem d_M_digestOf_85 : decode b_M_digestOf 85 = .ok (.i2l, 1) := by decide +kernel
theorem d_M_digestOf_86 : decode b_M_digestOf 86 = .ok (.invokestatic 201, 3) := by decide +kernel
theorem d_M_digestOf_89 : decode b_M_digestOf 89 = .ok (.aload_n 0, 1) := by decide +kernel
theorem d_M_digestOf_90 : decode b_M_digestOf 90 = .ok (.getfield 13, 3) := by decide +kernel
theorem d_M_digestOf_93 : decode b_M_digestOf 93 = .ok (.iload_n 2, 1) := by decide +kernel
theorem d_M_digestOf_94 : decode b_M_digestOf 94 = .ok (.iaload, 1) := by decide +kernel
theorem d_M_digestOf_95 : decode b_M_digestOf 95 = .ok (.ifCond .ne 18, 3) := by decide +kernel
theorem d_M_digestOf_98 : decode b_M_digestOf 98 = .ok (.aload_n 0, 1) := by decide +kernel
theorem d_M_digestOf_99 : decode b_M_digestOf 99 = .ok (.getfield 37, 3) := by decide +kernel
theorem d_M_digestOf_102 : decode b_M_digestOf 102 = .ok (.bipush 120, 2) := by decide +kernel
theorem d_M_digestOf_104 : decode b_M_digestOf 104 = .ok (.iload_n 1, 1) := by decide +kernel
theorem d_M_digestOf_105 : decode b_M_digestOf 105 = .ok (.imul, 1) := by decide +kernel
theorem d_M_digestOf_106 : decode b_M_digestOf 106 = .ok (.iload_n 2, 1) := by decide +kernel
theorem d_M_digestOf_107 : decode b_M_digestOf 107 = .ok (.iadd, 1) := by decide +kernel
theorem d_M_digestOf_108 : decode b_M_digestOf 108 = .ok (.iaload, 1) := by decide +kernel
theorem d_M_digestOf_109 : decode b_M_digestOf 109 = .ok (.i2l, 1) := by decide +kernel
theorem d_M_digestOf_110 : decode b_M_digestOf 110 = .ok (.goto 10, 3) := by decide +kernel
theorem d_M_digestOf_113 : decode b_M_digestOf 113 = .ok (.aload_n 0, 1) := by decide +kernel
theorem d_M_digestOf_114 : decode b_M_digestOf 114 = .ok (.getfield 22, 3) := by decide +kernel
theorem d_M_digestOf_117 : decode b_M_digestOf 117 = .ok (.iload_n 2, 1) := by decide +kernel
theorem d_M_digestOf_118 : decode b_M_digestOf 118 = .ok (.iaload, 1) := by decide +kernel
theorem d_M_digestOf_119 : decode b_M_digestOf 119 = .ok (.i2l, 1) := by decide +kernel
theorem d_M_digestOf_120 : decode b_M_digestOf 120 = .ok (.invokestatic 201, 3) := by decide +kernel
theorem d_M_digestOf_123 : decode b_M_digestOf 123 = .ok (.lstore_n 3, 1) := by decide +kernel
theorem d_M_digestOf_124 : decode b_M_digestOf 124 = .ok (.iconst 0, 1) := by decide +kernel
theorem d_M_digestOf_125 : decode b_M_digestOf 125 = .ok (.istore 5, 2) := by decide +kernel
theorem d_M_digestOf_127 : decode b_M_digestOf 127 = .ok (.iload 5, 2) := by decide +kernel
theorem d_M_digestOf_129 : decode b_M_digestOf 129 = .ok (.aload_n 0, 1) := by decide +kernel
theorem d_M_digestOf_130 : decode b_M_digestOf 130 = .ok (.getfield 28, 3) := by decide +kernel
theorem d_M_digestOf_133 : decode b_M_digestOf 133 = .ok (.iload_n 2, 1) := by decide +kernel
theorem d_M_digestOf_134 : decode b_M_digestOf 134 = .ok (.iaload, 1) := by decide +kernel
theorem d_M_digestOf_135 : decode b_M_digestOf 135 = .ok (.if_icmp .ge 37, 3) := by decide +kernel
theorem d_M_digestOf_138 : decode b_M_digestOf 138 = .ok (.aload_n 0, 1) := by decide +kernel
theorem d_M_digestOf_139 : decode b_M_digestOf 139 = .ok (.getfield 13, 3) := by decide +kernel
theorem d_M_digestOf_142 : decode b_M_digestOf 142 = .ok (.iload_n 2, 1) := by decide +kernel
theorem d_M_digestOf_143 : decode b_M_digestOf 143 = .ok (.iaload, 1) := by decide +kernel
theorem d_M_digestOf_144 : decode b_M_digestOf 144 = .ok (.iconst 3, 1) := by decide +kernel
theorem d_M_digestOf_145 : decode b_M_digestOf 145 = .ok (.if_icmp .ne 27, 3) := by decide +kernel
theorem d_M_digestOf_148 : decode b_M_digestOf 148 = .ok (.lload_n 3, 1) := by decide +kernel
theorem d_M_digestOf_149 : decode b_M_digestOf 149 = .ok (.aload_n 0, 1) := by decide +kernel
theorem d_M_digestOf_150 : decode b_M_digestOf 150 = .ok (.getfield 34, 3) := by decide +kernel
theorem d_M_digestOf_153 : decode b_M_digestOf 153 = .ok (.bipush 10, 2) := by decide +kernel
theorem d_M_digestOf_155 : decode b_M_digestOf 155 = .ok (.iload_n 2, 1) := by decide +kernel
theorem d_M_digestOf_156 : decode b_M_digestOf 156 = .ok (.imul, 1) := by decide +kernel
theorem d_M_digestOf_157 : decode b_M_digestOf 157 = .ok (.iload 5, 2) := by decide +kernel
theorem d_M_digestOf_159 : decode b_M_digestOf 159 = .ok (.iadd, 1) := by decide +kernel
theorem d_M_digestOf_160 : decode b_M_digestOf 160 = .ok (.iaload, 1) := by decide +kernel
theorem d_M_digestOf_161 : decode b_M_digestOf 161 = .ok (.i2l, 1) := by decide +kernel
theorem d_M_digestOf_162 : decode b_M_digestOf 162 = .ok (.invokestatic 201, 3) := by decide +kernel
theorem d_M_digestOf_165 : decode b_M_digestOf 165 = .ok (.lstore_n 3, 1) := by decide +kernel
theorem d_M_digestOf_166 : decode b_M_digestOf 166 = .ok (.iinc 5 1, 3) := by decide +kernel
theorem d_M_digestOf_169 : decode b_M_digestOf 169 = .ok (.goto (-42), 3) := by decide +kernel
theorem d_M_digestOf_172 : decode b_M_digestOf 172 = .ok (.lload_n 3, 1) := by decide +kernel
theorem d_M_digestOf_173 : decode b_M_digestOf 173 = .ok (.lreturn, 1) := by decide +kernel

abbrev b_M_headOf : ByteArray := prog_9_method_32_code
def y_M_headOf : MethodName := ⟨"RegistryLogModel", "headOf", "(III)J"⟩
theorem d_M_headOf_0 : decode b_M_headOf 0 = .ok (.iconst 0, 1) := by decide +kernel
theorem d_M_headOf_1 : decode b_M_headOf 1 = .ok (.istore 4, 2) := by decide +kernel
theorem d_M_headOf_3 : decode b_M_headOf 3 = .ok (.iload_n 2, 1) := by decide +kernel
theorem d_M_headOf_4 : decode b_M_headOf 4 = .ok (.istore 5, 2) := by decide +kernel
theorem d_M_headOf_6 : decode b_M_headOf 6 = .ok (.bipush 64, 2) := by decide +kernel
theorem d_M_headOf_8 : decode b_M_headOf 8 = .ok (.istore 6, 2) := by decide +kernel
theorem d_M_headOf_10 : decode b_M_headOf 10 = .ok (.iload 6, 2) := by decide +kernel
theorem d_M_headOf_12 : decode b_M_headOf 12 = .ok (.ifCond .le 145, 3) := by decide +kernel
theorem d_M_headOf_15 : decode b_M_headOf 15 = .ok (.iload_n 3, 1) := by decide +kernel
theorem d_M_headOf_16 : decode b_M_headOf 16 = .ok (.iload 6, 2) := by decide +kernel
theorem d_M_headOf_18 : decode b_M_headOf 18 = .ok (.iand, 1) := by decide +kernel
theorem d_M_headOf_19 : decode b_M_headOf 19 = .ok (.ifCond .ne 6, 3) := by decide +kernel
theorem d_M_headOf_22 : decode b_M_headOf 22 = .ok (.goto 126, 3) := by decide +kernel
theorem d_M_headOf_25 : decode b_M_headOf 25 = .ok (.iconst 0, 1) := by decide +kernel
theorem d_M_headOf_26 : decode b_M_headOf 26 = .ok (.istore 7, 2) := by decide +kernel
theorem d_M_headOf_28 : decode b_M_headOf 28 = .ok (.iload 7, 2) := by decide +kernel
theorem d_M_headOf_30 : decode b_M_headOf 30 = .ok (.iload 6, 2) := by decide +kernel
theorem d_M_headOf_32 : decode b_M_headOf 32 = .ok (.if_icmp .ge 26, 3) := by decide +kernel
theorem d_M_headOf_35 : decode b_M_headOf 35 = .ok (.aload_n 0, 1) := by decide +kernel
theorem d_M_headOf_36 : decode b_M_headOf 36 = .ok (.getfield 92, 3) := by decide +kernel
theorem d_M_headOf_39 : decode b_M_headOf 39 = .ok (.iload 7, 2) := by decide +kernel
theorem d_M_headOf_41 : decode b_M_headOf 41 = .ok (.aload_n 0, 1) := by decide +kernel
theorem d_M_headOf_42 : decode b_M_headOf 42 = .ok (.iload_n 1, 1) := by decide +kernel
theorem d_M_headOf_43 : decode b_M_headOf 43 = .ok (.iload 5, 2) := by decide +kernel
theorem d_M_headOf_45 : decode b_M_headOf 45 = .ok (.iload 7, 2) := by decide +kernel
theorem d_M_headOf_47 : decode b_M_headOf 47 = .ok (.iadd, 1) := by decide +kernel
theorem d_M_headOf_48 : decode b_M_headOf 48 = .ok (.invokevirtual 207, 3) := by decide +kernel
theorem d_M_headOf_51 : decode b_M_headOf 51 = .ok (.lastore, 1) := by decide +kernel
theorem d_M_headOf_52 : decode b_M_headOf 52 = .ok (.iinc 7 1, 3) := by decide +kernel
theorem d_M_headOf_55 : decode b_M_headOf 55 = .ok (.goto (-27), 3) := by decide +kernel
theorem d_M_headOf_58 : decode b_M_headOf 58 = .ok (.iload 6, 2) := by decide +kernel
theorem d_M_headOf_60 : decode b_M_headOf 60 = .ok (.istore 7, 2) := by decide +kernel
theorem d_M_headOf_62 : decode b_M_headOf 62 = .ok (.iload 7, 2) := by decide +kernel
theorem d_M_headOf_64 : decode b_M_headOf 64 = .ok (.iconst 1, 1) := by decide +kernel
theorem d_M_headOf_65 : decode b_M_headOf 65 = .ok (.if_icmp .le 60, 3) := by decide +kernel
theorem d_M_headOf_68 : decode b_M_headOf 68 = .ok (.iconst 0, 1) := by decide +kernel
theorem d_M_headOf_69 : decode b_M_headOf 69 = .ok (.istore 8, 2) := by decide +kernel
theorem d_M_headOf_71 : decode b_M_headOf 71 = .ok (.iload 8, 2) := by decide +kernel
theorem d_M_headOf_73 : decode b_M_headOf 73 = .ok (.iload 7, 2) := by decide +kernel
theorem d_M_headOf_75 : decode b_M_headOf 75 = .ok (.iconst 2, 1) := by decide +kernel
theorem d_M_headOf_76 : decode b_M_headOf 76 = .ok (.idiv, 1) := by decide +kernel
theorem d_M_headOf_77 : decode b_M_headOf 77 = .ok (.if_icmp .ge 39, 3) := by decide +kernel
theorem d_M_headOf_80 : decode b_M_headOf 80 = .ok (.aload_n 0, 1) := by decide +kernel
theorem d_M_headOf_81 : decode b_M_headOf 81 = .ok (.getfield 92, 3) := by decide +kernel
theorem d_M_headOf_84 : decode b_M_headOf 84 = .ok (.iload 8, 2) := by decide +kernel
theorem d_M_headOf_86 : decode b_M_headOf 86 = .ok (.aload_n 0, 1) := by decide +kernel
theorem d_M_headOf_87 : decode b_M_headOf 87 = .ok (.getfield 92, 3) := by decide +kernel
theorem d_M_headOf_90 : decode b_M_headOf 90 = .ok (.iconst 2, 1) := by decide +kernel
theorem d_M_headOf_91 : decode b_M_headOf 91 = .ok (.iload 8, 2) := by decide +kernel
theorem d_M_headOf_93 : decode b_M_headOf 93 = .ok (.imul, 1) := by decide +kernel
theorem d_M_headOf_94 : decode b_M_headOf 94 = .ok (.laload, 1) := by decide +kernel
theorem d_M_headOf_95 : decode b_M_headOf 95 = .ok (.aload_n 0, 1) := by decide +kernel
theorem d_M_headOf_96 : decode b_M_headOf 96 = .ok (.getfield 92, 3) := by decide +kernel
theorem d_M_headOf_99 : decode b_M_headOf 99 = .ok (.iconst 2, 1) := by decide +kernel
theorem d_M_headOf_100 : decode b_M_headOf 100 = .ok (.iload 8, 2) := by decide +kernel
theorem d_M_headOf_102 : decode b_M_headOf 102 = .ok (.imul, 1) := by decide +kernel
theorem d_M_headOf_103 : decode b_M_headOf 103 = .ok (.iconst 1, 1) := by decide +kernel
theorem d_M_headOf_104 : decode b_M_headOf 104 = .ok (.iadd, 1) := by decide +kernel
theorem d_M_headOf_105 : decode b_M_headOf 105 = .ok (.laload, 1) := by decide +kernel
theorem d_M_headOf_106 : decode b_M_headOf 106 = .ok (.invokestatic 211, 3) := by decide +kernel
theorem d_M_headOf_109 : decode b_M_headOf 109 = .ok (.lastore, 1) := by decide +kernel
theorem d_M_headOf_110 : decode b_M_headOf 110 = .ok (.iinc 8 1, 3) := by decide +kernel
theorem d_M_headOf_113 : decode b_M_headOf 113 = .ok (.goto (-42), 3) := by decide +kernel
theorem d_M_headOf_116 : decode b_M_headOf 116 = .ok (.iload 7, 2) := by decide +kernel
theorem d_M_headOf_118 : decode b_M_headOf 118 = .ok (.iconst 2, 1) := by decide +kernel
theorem d_M_headOf_119 : decode b_M_headOf 119 = .ok (.idiv, 1) := by decide +kernel
theorem d_M_headOf_120 : decode b_M_headOf 120 = .ok (.istore 7, 2) := by decide +kernel
theorem d_M_headOf_122 : decode b_M_headOf 122 = .ok (.goto (-60), 3) := by decide +kernel
theorem d_M_headOf_125 : decode b_M_headOf 125 = .ok (.aload_n 0, 1) := by decide +kernel
theorem d_M_headOf_126 : decode b_M_headOf 126 = .ok (.getfield 95, 3) := by decide +kernel
theorem d_M_headOf_129 : decode b_M_headOf 129 = .ok (.iload 4, 2) := by decide +kernel
theorem d_M_headOf_131 : decode b_M_headOf 131 = .ok (.aload_n 0, 1) := by decide +kernel
theorem d_M_headOf_132 : decode b_M_headOf 132 = .ok (.getfield 92, 3) := by decide +kernel
theorem d_M_headOf_135 : decode b_M_headOf 135 = .ok (.iconst 0, 1) := by decide +kernel
theorem d_M_headOf_136 : decode b_M_headOf 136 = .ok (.laload, 1) := by decide +kernel
theorem d_M_headOf_137 : decode b_M_headOf 137 = .ok (.lastore, 1) := by decide +kernel
theorem d_M_headOf_138 : decode b_M_headOf 138 = .ok (.iinc 4 1, 3) := by decide +kernel
theorem d_M_headOf_141 : decode b_M_headOf 141 = .ok (.iload 5, 2) := by decide +kernel
theorem d_M_headOf_143 : decode b_M_headOf 143 = .ok (.iload 6, 2) := by decide +kernel
theorem d_M_headOf_145 : decode b_M_headOf 145 = .ok (.iadd, 1) := by decide +kernel
theorem d_M_headOf_146 : decode b_M_headOf 146 = .ok (.istore 5, 2) := by decide +kernel
theorem d_M_headOf_148 : decode b_M_headOf 148 = .ok (.iload 6, 2) := by decide +kernel
theorem d_M_headOf_150 : decode b_M_headOf 150 = .ok (.iconst 2, 1) := by decide +kernel
theorem d_M_headOf_151 : decode b_M_headOf 151 = .ok (.idiv, 1) := by decide +kernel
theorem d_M_headOf_152 : decode b_M_headOf 152 = .ok (.istore 6, 2) := by decide +kernel
theorem d_M_headOf_154 : decode b_M_headOf 154 = .ok (.goto (-144), 3) := by decide +kernel
theorem d_M_headOf_157 : decode b_M_headOf 157 = .ok (.iload 4, 2) := by decide +kernel
theorem d_M_headOf_159 : decode b_M_headOf 159 = .ok (.ifCond .ne 5, 3) := by decide +kernel
theorem d_M_headOf_162 : decode b_M_headOf 162 = .ok (.lconst 0, 1) := by decide +kernel
theorem d_M_headOf_163 : decode b_M_headOf 163 = .ok (.lreturn, 1) := by decide +kernel
theorem d_M_headOf_164 : decode b_M_headOf 164 = .ok (.aload_n 0, 1) := by decide +kernel
theorem d_M_headOf_165 : decode b_M_headOf 165 = .ok (.getfield 95, 3) := by decide +kernel
theorem d_M_headOf_168 : decode b_M_headOf 168 = .ok (.iload 4, 2) := by decide +kernel
theorem d_M_headOf_170 : decode b_M_headOf 170 = .ok (.iconst 1, 1) := by decide +kernel
theorem d_M_headOf_171 : decode b_M_headOf 171 = .ok (.isub, 1) := by decide +kernel
theorem d_M_headOf_172 : decode b_M_headOf 172 = .ok (.laload, 1) := by decide +kernel
theorem d_M_headOf_173 : decode b_M_headOf 173 = .ok (.lstore 6, 2) := by decide +kernel
theorem d_M_headOf_175 : decode b_M_headOf 175 = .ok (.iload 4, 2) := by decide +kernel
theorem d_M_headOf_177 : decode b_M_headOf 177 = .ok (.iconst 2, 1) := by decide +kernel
theorem d_M_headOf_178 : decode b_M_headOf 178 = .ok (.isub, 1) := by decide +kernel
theorem d_M_headOf_179 : decode b_M_headOf 179 = .ok (.istore 8, 2) := by decide +kernel
theorem d_M_headOf_181 : decode b_M_headOf 181 = .ok (.iload 8, 2) := by decide +kernel
theorem d_M_headOf_183 : decode b_M_headOf 183 = .ok (.ifCond .lt 23, 3) := by decide +kernel
theorem d_M_headOf_186 : decode b_M_headOf 186 = .ok (.aload_n 0, 1) := by decide +kernel
theorem d_M_headOf_187 : decode b_M_headOf 187 = .ok (.getfield 95, 3) := by decide +kernel
theorem d_M_headOf_190 : decode b_M_headOf 190 = .ok (.iload 8, 2) := by decide +kernel
theorem d_M_headOf_192 : decode b_M_headOf 192 = .ok (.laload, 1) := by decide +kernel
theorem d_M_headOf_193 : decode b_M_headOf 193 = .ok (.lload 6, 2) := by decide +kernel
theorem d_M_headOf_195 : decode b_M_headOf 195 = .ok (.invokestatic 211, 3) := by decide +kernel
theorem d_M_headOf_198 : decode b_M_headOf 198 = .ok (.lstore 6, 2) := by decide +kernel
theorem d_M_headOf_200 : decode b_M_headOf 200 = .ok (.iinc 8 (-1), 3) := by decide +kernel
theorem d_M_headOf_203 : decode b_M_headOf 203 = .ok (.goto (-22), 3) := by decide +kernel
theorem d_M_headOf_206 : decode b_M_headOf 206 = .ok (.lload 6, 2) := by decide +kernel
theorem d_M_headOf_208 : decode b_M_headOf 208 = .ok (.lreturn, 1) := by decide +kernel

abbrev b_M_half : ByteArray := prog_9_method_33_code
def y_M_half : MethodName := ⟨"RegistryLogModel", "half", "(I)I"⟩
theorem d_M_half_0 : decode b_M_half 0 = .ok (.iconst 1, 1) := by decide +kernel
theorem d_M_half_1 : decode b_M_half 1 = .ok (.istore_n 1, 1) := by decide +kernel
theorem d_M_half_2 : decode b_M_half 2 = .ok (.iconst 2, 1) := by decide +kernel
theorem d_M_half_3 : decode b_M_half 3 = .ok (.iload_n 1, 1) := by decide +kernel
theorem d_M_half_4 : decode b_M_half 4 = .ok (.imul, 1) := by decide +kernel
theorem d_M_half_5 : decode b_M_half 5 = .ok (.iload_n 0, 1) := by decide +kernel
theorem d_M_half_6 : decode b_M_half 6 = .ok (.if_icmp .ge 10, 3) := by decide +kernel
theorem d_M_half_9 : decode b_M_half 9 = .ok (.iload_n 1, 1) := by decide +kernel
theorem d_M_half_10 : decode b_M_half 10 = .ok (.iconst 2, 1) := by decide +kernel
theorem d_M_half_11 : decode b_M_half 11 = .ok (.imul, 1) := by decide +kernel
theorem d_M_half_12 : decode b_M_half 12 = .ok (.istore_n 1, 1) := by decide +kernel
theorem d_M_half_13 : decode b_M_half 13 = .ok (.goto (-11), 3) := by decide +kernel
theorem d_M_half_16 : decode b_M_half 16 = .ok (.iload_n 1, 1) := by decide +kernel
theorem d_M_half_17 : decode b_M_half 17 = .ok (.ireturn, 1) := by decide +kernel

abbrev b_M_digest : ByteArray := prog_9_method_34_code
def y_M_digest : MethodName := ⟨"RegistryLogModel", "digest", "(I)J"⟩
theorem d_M_digest_0 : decode b_M_digest 0 = .ok (.aload_n 0, 1) := by decide +kernel
theorem d_M_digest_1 : decode b_M_digest 1 = .ok (.iconst 0, 1) := by decide +kernel
theorem d_M_digest_2 : decode b_M_digest 2 = .ok (.putfield 108, 3) := by decide +kernel
theorem d_M_digest_5 : decode b_M_digest 5 = .ok (.aload_n 0, 1) := by decide +kernel
theorem d_M_digest_6 : decode b_M_digest 6 = .ok (.iload_n 1, 1) := by decide +kernel
theorem d_M_digest_7 : decode b_M_digest 7 = .ok (.invokevirtual 196, 3) := by decide +kernel
theorem d_M_digest_10 : decode b_M_digest 10 = .ok (.ifCond .eq 12, 3) := by decide +kernel
theorem d_M_digest_13 : decode b_M_digest 13 = .ok (.aload_n 0, 1) := by decide +kernel
theorem d_M_digest_14 : decode b_M_digest 14 = .ok (.iconst 4, 1) := by decide +kernel
theorem d_M_digest_15 : decode b_M_digest 15 = .ok (.iload_n 1, 1) := by decide +kernel
theorem d_M_digest_16 : decode b_M_digest 16 = .ok (.invokevirtual 207, 3) := by decide +kernel
theorem d_M_digest_19 : decode b_M_digest 19 = .ok (.goto 4, 3) := by decide +kernel
theorem d_M_digest_22 : decode b_M_digest 22 = .ok (.lconst 0, 1) := by decide +kernel
theorem d_M_digest_23 : decode b_M_digest 23 = .ok (.lreturn, 1) := by decide +kernel

abbrev b_M_head : ByteArray := prog_9_method_35_code
def y_M_head : MethodName := ⟨"RegistryLogModel", "head", "(I)J"⟩
theorem d_M_head_0 : decode b_M_head 0 = .ok (.aload_n 0, 1) := by decide +kernel
theorem d_M_head_1 : decode b_M_head 1 = .ok (.iconst 0, 1) := by decide +kernel
theorem d_M_head_2 : decode b_M_head 2 = .ok (.putfield 108, 3) := by decide +kernel
theorem d_M_head_5 : decode b_M_head 5 = .ok (.iload_n 1, 1) := by decide +kernel
theorem d_M_head_6 : decode b_M_head 6 = .ok (.ifCond .lt 13, 3) := by decide +kernel
theorem d_M_head_9 : decode b_M_head 9 = .ok (.iload_n 1, 1) := by decide +kernel
theorem d_M_head_10 : decode b_M_head 10 = .ok (.aload_n 0, 1) := by decide +kernel
theorem d_M_head_11 : decode b_M_head 11 = .ok (.getfield 40, 3) := by decide +kernel
theorem d_M_head_14 : decode b_M_head 14 = .ok (.iconst 4, 1) := by decide +kernel
theorem d_M_head_15 : decode b_M_head 15 = .ok (.iaload, 1) := by decide +kernel
theorem d_M_head_16 : decode b_M_head 16 = .ok (.if_icmp .le 7, 3) := by decide +kernel
theorem d_M_head_19 : decode b_M_head 19 = .ok (.lconst 0, 1) := by decide +kernel
theorem d_M_head_20 : decode b_M_head 20 = .ok (.goto 10, 3) := by decide +kernel
theorem d_M_head_23 : decode b_M_head 23 = .ok (.aload_n 0, 1) := by decide +kernel
theorem d_M_head_24 : decode b_M_head 24 = .ok (.iconst 4, 1) := by decide +kernel
theorem d_M_head_25 : decode b_M_head 25 = .ok (.iconst 0, 1) := by decide +kernel
theorem d_M_head_26 : decode b_M_head 26 = .ok (.iload_n 1, 1) := by decide +kernel
theorem d_M_head_27 : decode b_M_head 27 = .ok (.invokevirtual 214, 3) := by decide +kernel
theorem d_M_head_30 : decode b_M_head 30 = .ok (.lreturn, 1) := by decide +kernel

abbrev b_M_goDown : ByteArray := prog_9_method_36_code
def y_M_goDown : MethodName := ⟨"RegistryLogModel", "goDown", "(IIZ)V"⟩
theorem d_M_goDown_0 : decode b_M_goDown 0 = .ok (.aload_n 0, 1) := by decide +kernel
theorem d_M_goDown_1 : decode b_M_goDown 1 = .ok (.iconst 0, 1) := by decide +kernel
theorem d_M_goDown_2 : decode b_M_goDown 2 = .ok (.putfield 218, 3) := by decide +kernel
theorem d_M_goDown_5 : decode b_M_goDown 5 = .ok (.aload_n 0, 1) := by decide +kernel
theorem d_M_goDown_6 : decode b_M_goDown 6 = .ok (.iconst 0, 1) := by decide +kernel
theorem d_M_goDown_7 : decode b_M_goDown 7 = .ok (.putfield 221, 3) := by decide +kernel
theorem d_M_goDown_10 : decode b_M_goDown 10 = .ok (.aload_n 0, 1) := by decide +kernel
theorem d_M_goDown_11 : decode b_M_goDown 11 = .ok (.iload_n 2, 1) := by decide +kernel
theorem d_M_goDown_12 : decode b_M_goDown 12 = .ok (.putfield 224, 3) := by decide +kernel
theorem d_M_goDown_15 : decode b_M_goDown 15 = .ok (.aload_n 0, 1) := by decide +kernel
theorem d_M_goDown_16 : decode b_M_goDown 16 = .ok (.iload_n 1, 1) := by decide +kernel
theorem d_M_goDown_17 : decode b_M_goDown 17 = .ok (.putfield 227, 3) := by decide +kernel
theorem d_M_goDown_20 : decode b_M_goDown 20 = .ok (.aload_n 0, 1) := by decide +kernel
theorem d_M_goDown_21 : decode b_M_goDown 21 = .ok (.iconst 1, 1) := by decide +kernel
theorem d_M_goDown_22 : decode b_M_goDown 22 = .ok (.putfield 230, 3) := by decide +kernel
theorem d_M_goDown_25 : decode b_M_goDown 25 = .ok (.iload_n 3, 1) := by decide +kernel
theorem d_M_goDown_26 : decode b_M_goDown 26 = .ok (.ifCond .eq 17, 3) := by decide +kernel
theorem d_M_goDown_29 : decode b_M_goDown 29 = .ok (.aload_n 0, 1) := by decide +kernel
theorem d_M_goDown_30 : decode b_M_goDown 30 = .ok (.getfield 227, 3) := by decide +kernel
theorem d_M_goDown_33 : decode b_M_goDown 33 = .ok (.aload_n 0, 1) := by decide +kernel
theorem d_M_goDown_34 : decode b_M_goDown 34 = .ok (.getfield 224, 3) := by decide +kernel
theorem d_M_goDown_37 : decode b_M_goDown 37 = .ok (.if_icmp .ge 220, 3) := by decide +kernel
theorem d_M_goDown_40 : decode b_M_goDown 40 = .ok (.goto 11, 3) := by decide +kernel
theorem d_M_goDown_43 : decode b_M_goDown 43 = .ok (.aload_n 0, 1) := by decide +kernel
theorem d_M_goDown_44 : decode b_M_goDown 44 = .ok (.getfield 224, 3) := by decide +kernel
theorem d_M_goDown_47 : decode b_M_goDown 47 = .ok (.iconst 1, 1) := by decide +kernel
theorem d_M_goDown_48 : decode b_M_goDown 48 = .ok (.if_icmp .le 209, 3) := by decide +kernel
theorem d_M_goDown_51 : decode b_M_goDown 51 = .ok (.aload_n 0, 1) := by decide +kernel
theorem d_M_goDown_52 : decode b_M_goDown 52 = .ok (.getfield 224, 3) := by decide +kernel
theorem d_M_goDown_55 : decode b_M_goDown 55 = .ok (.invokestatic 234, 3) := by decide +kernel
theorem d_M_goDown_58 : decode b_M_goDown 58 = .ok (.istore 4, 2) := by decide +kernel
theorem d_M_goDown_60 : decode b_M_goDown 60 = .ok (.iload_n 3, 1) := by decide +kernel
theorem d_M_goDown_61 : decode b_M_goDown 61 = .ok (.ifCond .eq 20, 3) := by decide +kernel
theorem d_M_goDown_64 : decode b_M_goDown 64 = .ok (.aload_n 0, 1) := by decide +kernel
theorem d_M_goDown_65 : decode b_M_goDown 65 = .ok (.getfield 227, 3) := by decide +kernel
theorem d_M_goDown_68 : decode b_M_goDown 68 = .ok (.iload 4, 2) := by decide +kernel
theorem d_M_goDown_70 : decode b_M_goDown 70 = .ok (.if_icmp .gt 7, 3) := by decide +kernel
theorem d_M_goDown_73 : decode b_M_goDown 73 = .ok (.iconst 1, 1) := by decide +kernel
theorem d_M_goDown_74 : decode b_M_goDown 74 = .ok (.goto 21, 3) := by decide +kernel
theorem d_M_goDown_77 : decode b_M_goDown 77 = .ok (.iconst 0, 1) := by decide +kernel
theorem d_M_goDown_78 : decode b_M_goDown 78 = .ok (.goto 17, 3) := by decide +kernel
theorem d_M_goDown_81 : decode b_M_goDown 81 = .ok (.aload_n 0, 1) := by decide +kernel
theorem d_M_goDown_82 : decode b_M_goDown 82 = .ok (.getfield 227, 3) := by decide +kernel
theorem d_M_goDown_85 : decode b_M_goDown 85 = .ok (.iload 4, 2) := by decide +kernel
theorem d_M_goDown_87 : decode b_M_goDown 87 = .ok (.if_icmp .ge 7, 3) := by decide +kernel
theorem d_M_goDown_90 : decode b_M_goDown 90 = .ok (.iconst 1, 1) := by decide +kernel
theorem d_M_goDown_91 : decode b_M_goDown 91 = .ok (.goto 4, 3) := by decide +kernel
theorem d_M_goDown_94 : decode b_M_goDown 94 = .ok (.iconst 0, 1) := by decide +kernel
theorem d_M_goDown_95 : decode b_M_goDown 95 = .ok (.istore 5, 2) := by decide +kernel
theorem d_M_goDown_97 : decode b_M_goDown 97 = .ok (.aload_n 0, 1) := by decide +kernel
theorem d_M_goDown_98 : decode b_M_goDown 98 = .ok (.getfield 98, 3) := by decide +kernel
theorem d_M_goDown_101 : decode b_M_goDown 101 = .ok (.aload_n 0, 1) := by decide +kernel
theorem d_M_goDown_102 : decode b_M_goDown 102 = .ok (.getfield 218, 3) := by decide +kernel
theorem d_M_goDown_105 : decode b_M_goDown 105 = .ok (.iload 5, 2) := by decide +kernel
theorem d_M_goDown_107 : decode b_M_goDown 107 = .ok (.ifCond .eq 13, 3) := by decide +kernel
theorem d_M_goDown_110 : decode b_M_goDown 110 = .ok (.aload_n 0, 1) := by decide +kernel
theorem d_M_goDown_111 : decode b_M_goDown 111 = .ok (.getfield 221, 3) := by decide +kernel
theorem d_M_goDown_114 : decode b_M_goDown 114 = .ok (.iload 4, 2) := by decide +kernel
theorem d_M_goDown_116 : decode b_M_goDown 116 = .ok (.iadd, 1) := by decide +kernel
theorem d_M_goDown_117 : decode b_M_goDown 117 = .ok (.goto 7, 3) := by decide +kernel
theorem d_M_goDown_120 : decode b_M_goDown 120 = .ok (.aload_n 0, 1) := by decide +kernel
theorem d_M_goDown_121 : decode b_M_goDown 121 = .ok (.getfield 221, 3) := by decide +kernel
theorem d_M_goDown_124 : decode b_M_goDown 124 = .ok (.iastore, 1) := by decide +kernel
theorem d_M_goDown_125 : decode b_M_goDown 125 = .ok (.aload_n 0, 1) := by decide +kernel
theorem d_M_goDown_126 : decode b_M_goDown 126 = .ok (.getfield 101, 3) := by decide +kernel
theorem d_M_goDown_129 : decode b_M_goDown 129 = .ok (.aload_n 0, 1) := by decide +kernel
theorem d_M_goDown_130 : decode b_M_goDown 130 = .ok (.getfield 218, 3) := by decide +kernel
theorem d_M_goDown_133 : decode b_M_goDown 133 = .ok (.iload 5, 2) := by decide +kernel
theorem d_M_goDown_135 : decode b_M_goDown 135 = .ok (.ifCond .eq 13, 3) := by decide +kernel
theorem d_M_goDown_138 : decode b_M_goDown 138 = .ok (.aload_n 0, 1) := by decide +kernel
theorem d_M_goDown_139 : decode b_M_goDown 139 = .ok (.getfield 224, 3) := by decide +kernel
theorem d_M_goDown_142 : decode b_M_goDown 142 = .ok (.iload 4, 2) := by decide +kernel
theorem d_M_goDown_144 : decode b_M_goDown 144 = .ok (.isub, 1) := by decide +kernel
theorem d_M_goDown_145 : decode b_M_goDown 145 = .ok (.goto 5, 3) := by decide +kernel
theorem d_M_goDown_148 : decode b_M_goDown 148 = .ok (.iload 4, 2) := by decide +kernel
theorem d_M_goDown_150 : decode b_M_goDown 150 = .ok (.iastore, 1) := by decide +kernel
theorem d_M_goDown_151 : decode b_M_goDown 151 = .ok (.aload_n 0, 1) := by decide +kernel
theorem d_M_goDown_152 : decode b_M_goDown 152 = .ok (.getfield 104, 3) := by decide +kernel
theorem d_M_goDown_155 : decode b_M_goDown 155 = .ok (.aload_n 0, 1) := by decide +kernel
theorem d_M_goDown_156 : decode b_M_goDown 156 = .ok (.getfield 218, 3) := by decide +kernel
theorem d_M_goDown_159 : decode b_M_goDown 159 = .ok (.iload 5, 2) := by decide +kernel
theorem d_M_goDown_161 : decode b_M_goDown 161 = .ok (.bastore, 1) := by decide +kernel
theorem d_M_goDown_162 : decode b_M_goDown 162 = .ok (.aload_n 0, 1) := by decide +kernel
theorem d_M_goDown_163 : decode b_M_goDown 163 = .ok (.dup, 1) := by decide +kernel
theorem d_M_goDown_164 : decode b_M_goDown 164 = .ok (.getfield 218, 3) := by decide +kernel
theorem d_M_goDown_167 : decode b_M_goDown 167 = .ok (.iconst 1, 1) := by decide +kernel
theorem d_M_goDown_168 : decode b_M_goDown 168 = .ok (.iadd, 1) := by decide +kernel
theorem d_M_goDown_169 : decode b_M_goDown 169 = .ok (.putfield 218, 3) := by decide +kernel
theorem d_M_goDown_172 : decode b_M_goDown 172 = .ok (.aload_n 0, 1) := by decide +kernel
theorem d_M_goDown_173 : decode b_M_goDown 173 = .ok (.dup, 1) := by decide +kernel
theorem d_M_goDown_174 : decode b_M_goDown 174 = .ok (.getfield 227, 3) := by decide +kernel
theorem d_M_goDown_177 : decode b_M_goDown 177 = .ok (.iload 5, 2) := by decide +kernel
theorem d_M_goDown_179 : decode b_M_goDown 179 = .ok (.ifCond .eq 7, 3) := by decide +kernel
theorem d_M_goDown_182 : decode b_M_goDown 182 = .ok (.iconst 0, 1) := by decide +kernel
theorem d_M_goDown_183 : decode b_M_goDown 183 = .ok (.goto 5, 3) := by decide +kernel
theorem d_M_goDown_186 : decode b_M_goDown 186 = .ok (.iload 4, 2) := by decide +kernel
theorem d_M_goDown_188 : decode b_M_goDown 188 = .ok (.isub, 1) := by decide +kernel
theorem d_M_goDown_189 : decode b_M_goDown 189 = .ok (.putfield 227, 3) := by decide +kernel
theorem d_M_goDown_192 : decode b_M_goDown 192 = .ok (.aload_n 0, 1) := by decide +kernel
theorem d_M_goDown_193 : decode b_M_goDown 193 = .ok (.dup, 1) := by decide +kernel
theorem d_M_goDown_194 : decode b_M_goDown 194 = .ok (.getfield 221, 3) := by decide +kernel
theorem d_M_goDown_197 : decode b_M_goDown 197 = .ok (.iload 5, 2) := by decide +kernel
theorem d_M_goDown_199 : decode b_M_goDown 199 = .ok (.ifCond .eq 7, 3) := by decide +kernel
theorem d_M_goDown_202 : decode b_M_goDown 202 = .ok (.iconst 0, 1) := by decide +kernel
theorem d_M_goDown_203 : decode b_M_goDown 203 = .ok (.goto 5, 3) := by decide +kernel
theorem d_M_goDown_206 : decode b_M_goDown 206 = .ok (.iload 4, 2) := by decide +kernel
theorem d_M_goDown_208 : decode b_M_goDown 208 = .ok (.iadd, 1) := by decide +kernel
theorem d_M_goDown_209 : decode b_M_goDown 209 = .ok (.putfield 221, 3) := by decide +kernel
theorem d_M_goDown_212 : decode b_M_goDown 212 = .ok (.aload_n 0, 1) := by decide +kernel
theorem d_M_goDown_213 : decode b_M_goDown 213 = .ok (.iload 5, 2) := by decide +kernel
theorem d_M_goDown_215 : decode b_M_goDown 215 = .ok (.ifCond .eq 8, 3) := by decide +kernel
theorem d_M_goDown_218 : decode b_M_goDown 218 = .ok (.iload 4, 2) := by decide +kernel
theorem d_M_goDown_220 : decode b_M_goDown 220 = .ok (.goto 10, 3) := by decide +kernel
theorem d_M_goDown_223 : decode b_M_goDown 223 = .ok (.aload_n 0, 1) := by decide +kernel
theorem d_M_goDown_224 : decode b_M_goDown 224 = .ok (.getfield 224, 3) := by decide +kernel
theorem d_M_goDown_227 : decode b_M_goDown 227 = .ok (.iload 4, 2) := by decide +kernel
theorem d_M_goDown_229 : decode b_M_goDown 229 = .ok (.isub, 1) := by decide +kernel
theorem d_M_goDown_230 : decode b_M_goDown 230 = .ok (.putfield 224, 3) := by decide +kernel
theorem d_M_goDown_233 : decode b_M_goDown 233 = .ok (.aload_n 0, 1) := by decide +kernel
theorem d_M_goDown_234 : decode b_M_goDown 234 = .ok (.aload_n 0, 1) := by decide +kernel
theorem d_M_goDown_235 : decode b_M_goDown 235 = .ok (.getfield 230, 3) := by decide +kernel
theorem d_M_goDown_238 : decode b_M_goDown 238 = .ok (.ifCond .eq 12, 3) := by decide +kernel
theorem d_M_goDown_241 : decode b_M_goDown 241 = .ok (.iload 5, 2) := by decide +kernel
theorem d_M_goDown_243 : decode b_M_goDown 243 = .ok (.ifCond .eq 7, 3) := by decide +kernel
theorem d_M_goDown_246 : decode b_M_goDown 246 = .ok (.iconst 1, 1) := by decide +kernel
theorem d_M_goDown_247 : decode b_M_goDown 247 = .ok (.goto 4, 3) := by decide +kernel
theorem d_M_goDown_250 : decode b_M_goDown 250 = .ok (.iconst 0, 1) := by decide +kernel
theorem d_M_goDown_251 : decode b_M_goDown 251 = .ok (.putfield 230, 3) := by decide +kernel
theorem d_M_goDown_254 : decode b_M_goDown 254 = .ok (.goto (-229), 3) := by decide +kernel
theorem d_M_goDown_257 : decode b_M_goDown 257 = .ok (.return_, 1) := by decide +kernel

abbrev b_M_prove : ByteArray := prog_9_method_37_code
def y_M_prove : MethodName := ⟨"RegistryLogModel", "prove", "(J)V"⟩
theorem d_M_prove_0 : decode b_M_prove 0 = .ok (.aload_n 0, 1) := by decide +kernel
theorem d_M_prove_1 : decode b_M_prove 1 = .ok (.getfield 43, 3) := by decide +kernel
theorem d_M_prove_4 : decode b_M_prove 4 = .ok (.aload_n 0, 1) := by decide +kernel
theorem d_M_prove_5 : decode b_M_prove 5 = .ok (.getfield 238, 3) := by decide +kernel
theorem d_M_prove_8 : decode b_M_prove 8 = .ok (.lload_n 1, 1) := by decide +kernel
theorem d_M_prove_9 : decode b_M_prove 9 = .ok (.lastore, 1) := by decide +kernel
theorem d_M_prove_10 : decode b_M_prove 10 = .ok (.aload_n 0, 1) := by decide +kernel
theorem d_M_prove_11 : decode b_M_prove 11 = .ok (.dup, 1) := by decide +kernel
theorem d_M_prove_12 : decode b_M_prove 12 = .ok (.getfield 238, 3) := by decide +kernel
theorem d_M_prove_15 : decode b_M_prove 15 = .ok (.iconst 1, 1) := by decide +kernel
theorem d_M_prove_16 : decode b_M_prove 16 = .ok (.iadd, 1) := by decide +kernel
theorem d_M_prove_17 : decode b_M_prove 17 = .ok (.putfield 238, 3) := by decide +kernel
theorem d_M_prove_20 : decode b_M_prove 20 = .ok (.return_, 1) := by decide +kernel

abbrev b_M_inside : ByteArray := prog_9_method_38_code
def y_M_inside : MethodName := ⟨"RegistryLogModel", "inside", "(II)I"⟩
theorem d_M_inside_0 : decode b_M_inside 0 = .ok (.aload_n 0, 1) := by decide +kernel
theorem d_M_inside_1 : decode b_M_inside 1 = .ok (.iconst 0, 1) := by decide +kernel
theorem d_M_inside_2 : decode b_M_inside 2 = .ok (.putfield 108, 3) := by decide +kernel
theorem d_M_inside_5 : decode b_M_inside 5 = .ok (.aload_n 0, 1) := by decide +kernel
theorem d_M_inside_6 : decode b_M_inside 6 = .ok (.iconst 0, 1) := by decide +kernel
theorem d_M_inside_7 : decode b_M_inside 7 = .ok (.putfield 238, 3) := by decide +kernel
theorem d_M_inside_10 : decode b_M_inside 10 = .ok (.iload_n 2, 1) := by decide +kernel
theorem d_M_inside_11 : decode b_M_inside 11 = .ok (.aload_n 0, 1) := by decide +kernel
theorem d_M_inside_12 : decode b_M_inside 12 = .ok (.getfield 40, 3) := by decide +kernel
theorem d_M_inside_15 : decode b_M_inside 15 = .ok (.iconst 4, 1) := by decide +kernel
theorem d_M_inside_16 : decode b_M_inside 16 = .ok (.iaload, 1) := by decide +kernel
theorem d_M_inside_17 : decode b_M_inside 17 = .ok (.if_icmp .gt 12, 3) := by decide +kernel
theorem d_M_inside_20 : decode b_M_inside 20 = .ok (.iload_n 1, 1) := by decide +kernel
theorem d_M_inside_21 : decode b_M_inside 21 = .ok (.ifCond .lt 8, 3) := by decide +kernel
theorem d_M_inside_24 : decode b_M_inside 24 = .ok (.iload_n 1, 1) := by decide +kernel
theorem d_M_inside_25 : decode b_M_inside 25 = .ok (.iload_n 2, 1) := by decide +kernel
theorem d_M_inside_26 : decode b_M_inside 26 = .ok (.if_icmp .lt 5, 3) := by decide +kernel
theorem d_M_inside_29 : decode b_M_inside 29 = .ok (.iconst (-1), 1) := by decide +kernel
theorem d_M_inside_30 : decode b_M_inside 30 = .ok (.ireturn, 1) := by decide +kernel
theorem d_M_inside_31 : decode b_M_inside 31 = .ok (.aload_n 0, 1) := by decide +kernel
theorem d_M_inside_32 : decode b_M_inside 32 = .ok (.iload_n 1, 1) := by decide +kernel
theorem d_M_inside_33 : decode b_M_inside 33 = .ok (.iload_n 2, 1) := by decide +kernel
theorem d_M_inside_34 : decode b_M_inside 34 = .ok (.iconst 0, 1) := by decide +kernel
theorem d_M_inside_35 : decode b_M_inside 35 = .ok (.invokevirtual 241, 3) := by decide +kernel
theorem d_M_inside_38 : decode b_M_inside 38 = .ok (.aload_n 0, 1) := by decide +kernel
theorem d_M_inside_39 : decode b_M_inside 39 = .ok (.getfield 218, 3) := by decide +kernel
theorem d_M_inside_42 : decode b_M_inside 42 = .ok (.iconst 1, 1) := by decide +kernel
theorem d_M_inside_43 : decode b_M_inside 43 = .ok (.isub, 1) := by decide +kernel
theorem d_M_inside_44 : decode b_M_inside 44 = .ok (.istore_n 3, 1) := by decide +kernel
theorem d_M_inside_45 : decode b_M_inside 45 = .ok (.iload_n 3, 1) := by decide +kernel
theorem d_M_inside_46 : decode b_M_inside 46 = .ok (.ifCond .lt 30, 3) := by decide +kernel
theorem d_M_inside_49 : decode b_M_inside 49 = .ok (.aload_n 0, 1) := by decide +kernel
theorem d_M_inside_50 : decode b_M_inside 50 = .ok (.aload_n 0, 1) := by decide +kernel
theorem d_M_inside_51 : decode b_M_inside 51 = .ok (.iconst 4, 1) := by decide +kernel
theorem d_M_inside_52 : decode b_M_inside 52 = .ok (.aload_n 0, 1) := by decide +kernel
theorem d_M_inside_53 : decode b_M_inside 53 = .ok (.getfield 98, 3) := by decide +kernel
theorem d_M_inside_56 : decode b_M_inside 56 = .ok (.iload_n 3, 1) := by decide +kernel
theorem d_M_inside_57 : decode b_M_inside 57 = .ok (.iaload, 1) := by decide +kernel
theorem d_M_inside_58 : decode b_M_inside 58 = .ok (.aload_n 0, 1) := by decide +kernel
theorem d_M_inside_59 : decode b_M_inside 59 = .ok (.getfield 101, 3) := by decide +kernel
theorem d_M_inside_62 : decode b_M_inside 62 = .ok (.iload_n 3, 1) := by decide +kernel
theorem d_M_inside_63 : decode b_M_inside 63 = .ok (.iaload, 1) := by decide +kernel
theorem d_M_inside_64 : decode b_M_inside 64 = .ok (.invokevirtual 214, 3) := by decide +kernel
theorem d_M_inside_67 : decode b_M_inside 67 = .ok (.invokevirtual 245, 3) := by decide +kernel
theorem d_M_inside_70 : decode b_M_inside 70 = .ok (.iinc 3 (-1), 3) := by decide +kernel
theorem d_M_inside_73 : decode b_M_inside 73 = .ok (.goto (-28), 3) := by decide +kernel
theorem d_M_inside_76 : decode b_M_inside 76 = .ok (.aload_n 0, 1) := by decide +kernel
theorem d_M_inside_77 : decode b_M_inside 77 = .ok (.getfield 238, 3) := by decide +kernel
theorem d_M_inside_80 : decode b_M_inside 80 = .ok (.ireturn, 1) := by decide +kernel

abbrev b_M_growth : ByteArray := prog_9_method_39_code
def y_M_growth : MethodName := ⟨"RegistryLogModel", "growth", "(II)I"⟩
theorem d_M_growth_0 : decode b_M_growth 0 = .ok (.aload_n 0, 1) := by decide +kernel
theorem d_M_growth_1 : decode b_M_growth 1 = .ok (.iconst 0, 1) := by decide +kernel
theorem d_M_growth_2 : decode b_M_growth 2 = .ok (.putfield 108, 3) := by decide +kernel
theorem d_M_growth_5 : decode b_M_growth 5 = .ok (.aload_n 0, 1) := by decide +kernel
theorem d_M_growth_6 : decode b_M_growth 6 = .ok (.iconst 0, 1) := by decide +kernel
theorem d_M_growth_7 : decode b_M_growth 7 = .ok (.putfield 238, 3) := by decide +kernel
theorem d_M_growth_10 : decode b_M_growth 10 = .ok (.iload_n 2, 1) := by decide +kernel
theorem d_M_growth_11 : decode b_M_growth 11 = .ok (.aload_n 0, 1) := by decide +kernel
theorem d_M_growth_12 : decode b_M_growth 12 = .ok (.getfield 40, 3) := by decide +kernel
theorem d_M_growth_15 : decode b_M_growth 15 = .ok (.iconst 4, 1) := by decide +kernel
theorem d_M_growth_16 : decode b_M_growth 16 = .ok (.iaload, 1) := by decide +kernel
theorem d_M_growth_17 : decode b_M_growth 17 = .ok (.if_icmp .gt 13, 3) := by decide +kernel
theorem d_M_growth_20 : decode b_M_growth 20 = .ok (.iload_n 1, 1) := by decide +kernel
theorem d_M_growth_21 : decode b_M_growth 21 = .ok (.iconst 1, 1) := by decide +kernel
theorem d_M_growth_22 : decode b_M_growth 22 = .ok (.if_icmp .lt 8, 3) := by decide +kernel
theorem d_M_growth_25 : decode b_M_growth 25 = .ok (.iload_n 1, 1) := by decide +kernel
theorem d_M_growth_26 : decode b_M_growth 26 = .ok (.iload_n 2, 1) := by decide +kernel
theorem d_M_growth_27 : decode b_M_growth 27 = .ok (.if_icmp .le 5, 3) := by decide +kernel
theorem d_M_growth_30 : decode b_M_growth 30 = .ok (.iconst (-1), 1) := by decide +kernel
theorem d_M_growth_31 : decode b_M_growth 31 = .ok (.ireturn, 1) := by decide +kernel
theorem d_M_growth_32 : decode b_M_growth 32 = .ok (.aload_n 0, 1) := by decide +kernel
theorem d_M_growth_33 : decode b_M_growth 33 = .ok (.iload_n 1, 1) := by decide +kernel
theorem d_M_growth_34 : decode b_M_growth 34 = .ok (.iload_n 2, 1) := by decide +kernel
theorem d_M_growth_35 : decode b_M_growth 35 = .ok (.iconst 1, 1) := by decide +kernel
theorem d_M_growth_36 : decode b_M_growth 36 = .ok (.invokevirtual 241, 3) := by decide +kernel
theorem d_M_growth_39 : decode b_M_growth 39 = .ok (.aload_n 0, 1) := by decide +kernel
theorem d_M_growth_40 : decode b_M_growth 40 = .ok (.getfield 230, 3) := by decide +kernel
theorem d_M_growth_43 : decode b_M_growth 43 = .ok (.ifCond .ne 20, 3) := by decide +kernel
theorem d_M_growth_46 : decode b_M_growth 46 = .ok (.aload_n 0, 1) := by decide +kernel
theorem d_M_growth_47 : decode b_M_growth 47 = .ok (.aload_n 0, 1) := by decide +kernel
theorem d_M_growth_48 : decode b_M_growth 48 = .ok (.iconst 4, 1) := by decide +kernel
theorem d_M_growth_49 : decode b_M_growth 49 = .ok (.aload_n 0, 1) := by decide +kernel
theorem d_M_growth_50 : decode b_M_growth 50 = .ok (.getfield 221, 3) := by decide +kernel
theorem d_M_growth_53 : decode b_M_growth 53 = .ok (.aload_n 0, 1) := by decide +kernel
theorem d_M_growth_54 : decode b_M_growth 54 = .ok (.getfield 224, 3) := by decide +kernel
theorem d_M_growth_57 : decode b_M_growth 57 = .ok (.invokevirtual 214, 3) := by decide +kernel
theorem d_M_growth_60 : decode b_M_growth 60 = .ok (.invokevirtual 245, 3) := by decide +kernel
theorem d_M_growth_63 : decode b_M_growth 63 = .ok (.aload_n 0, 1) := by decide +kernel
theorem d_M_growth_64 : decode b_M_growth 64 = .ok (.getfield 218, 3) := by decide +kernel
theorem d_M_growth_67 : decode b_M_growth 67 = .ok (.iconst 1, 1) := by decide +kernel
theorem d_M_growth_68 : decode b_M_growth 68 = .ok (.isub, 1) := by decide +kernel
theorem d_M_growth_69 : decode b_M_growth 69 = .ok (.istore_n 3, 1) := by decide +kernel
theorem d_M_growth_70 : decode b_M_growth 70 = .ok (.iload_n 3, 1) := by decide +kernel
theorem d_M_growth_71 : decode b_M_growth 71 = .ok (.ifCond .lt 30, 3) := by decide +kernel
theorem d_M_growth_74 : decode b_M_growth 74 = .ok (.aload_n 0, 1) := by decide +kernel
theorem d_M_growth_75 : decode b_M_growth 75 = .ok (.aload_n 0, 1) := by decide +kernel
theorem d_M_growth_76 : decode b_M_growth 76 = .ok (.iconst 4, 1) := by decide +kernel
theorem d_M_growth_77 : decode b_M_growth 77 = .ok (.aload_n 0, 1) := by decide +kernel
theorem d_M_growth_78 : decode b_M_growth 78 = .ok (.getfield 98, 3) := by decide +kernel
theorem d_M_growth_81 : decode b_M_growth 81 = .ok (.iload_n 3, 1) := by decide +kernel
theorem d_M_growth_82 : decode b_M_growth 82 = .ok (.iaload, 1) := by decide +kernel
theorem d_M_growth_83 : decode b_M_growth 83 = .ok (.aload_n 0, 1) := by decide +kernel
theorem d_M_growth_84 : decode b_M_growth 84 = .ok (.getfield 101, 3) := by decide +kernel
theorem d_M_growth_87 : decode b_M_growth 87 = .ok (.iload_n 3, 1) := by decide +kernel
theorem d_M_growth_88 : decode b_M_growth 88 = .ok (.iaload, 1) := by decide +kernel
theorem d_M_growth_89 : decode b_M_growth 89 = .ok (.invokevirtual 214, 3) := by decide +kernel
theorem d_M_growth_92 : decode b_M_growth 92 = .ok (.invokevirtual 245, 3) := by decide +kernel
theorem d_M_growth_95 : decode b_M_growth 95 = .ok (.iinc 3 (-1), 3) := by decide +kernel
theorem d_M_growth_98 : decode b_M_growth 98 = .ok (.goto (-28), 3) := by decide +kernel
theorem d_M_growth_101 : decode b_M_growth 101 = .ok (.aload_n 0, 1) := by decide +kernel
theorem d_M_growth_102 : decode b_M_growth 102 = .ok (.getfield 238, 3) := by decide +kernel
theorem d_M_growth_105 : decode b_M_growth 105 = .ok (.ireturn, 1) := by decide +kernel

abbrev b_M_proof : ByteArray := prog_9_method_40_code
def y_M_proof : MethodName := ⟨"RegistryLogModel", "proof", "(I)J"⟩
theorem d_M_proof_0 : decode b_M_proof 0 = .ok (.aload_n 0, 1) := by decide +kernel
theorem d_M_proof_1 : decode b_M_proof 1 = .ok (.iconst 0, 1) := by decide +kernel
theorem d_M_proof_2 : decode b_M_proof 2 = .ok (.putfield 108, 3) := by decide +kernel
theorem d_M_proof_5 : decode b_M_proof 5 = .ok (.iload_n 1, 1) := by decide +kernel
theorem d_M_proof_6 : decode b_M_proof 6 = .ok (.ifCond .lt 11, 3) := by decide +kernel
theorem d_M_proof_9 : decode b_M_proof 9 = .ok (.iload_n 1, 1) := by decide +kernel
theorem d_M_proof_10 : decode b_M_proof 10 = .ok (.aload_n 0, 1) := by decide +kernel
theorem d_M_proof_11 : decode b_M_proof 11 = .ok (.getfield 238, 3) := by decide +kernel
theorem d_M_proof_14 : decode b_M_proof 14 = .ok (.if_icmp .lt 7, 3) := by decide +kernel
theorem d_M_proof_17 : decode b_M_proof 17 = .ok (.lconst 0, 1) := by decide +kernel
theorem d_M_proof_18 : decode b_M_proof 18 = .ok (.goto 9, 3) := by decide +kernel
theorem d_M_proof_21 : decode b_M_proof 21 = .ok (.aload_n 0, 1) := by decide +kernel
theorem d_M_proof_22 : decode b_M_proof 22 = .ok (.getfield 43, 3) := by decide +kernel
theorem d_M_proof_25 : decode b_M_proof 25 = .ok (.iload_n 1, 1) := by decide +kernel
theorem d_M_proof_26 : decode b_M_proof 26 = .ok (.laload, 1) := by decide +kernel
theorem d_M_proof_27 : decode b_M_proof 27 = .ok (.lreturn, 1) := by decide +kernel

abbrev b_M_take : ByteArray := prog_9_method_41_code
def y_M_take : MethodName := ⟨"RegistryLogModel", "take", "(J)Z"⟩
theorem d_M_take_0 : decode b_M_take 0 = .ok (.aload_n 0, 1) := by decide +kernel
theorem d_M_take_1 : decode b_M_take 1 = .ok (.iconst 0, 1) := by decide +kernel
theorem d_M_take_2 : decode b_M_take 2 = .ok (.putfield 108, 3) := by decide +kernel
theorem d_M_take_5 : decode b_M_take 5 = .ok (.aload_n 0, 1) := by decide +kernel
theorem d_M_take_6 : decode b_M_take 6 = .ok (.getfield 249, 3) := by decide +kernel
theorem d_M_take_9 : decode b_M_take 9 = .ok (.bipush 16, 2) := by decide +kernel
theorem d_M_take_11 : decode b_M_take 11 = .ok (.if_icmp .ne 5, 3) := by decide +kernel
theorem d_M_take_14 : decode b_M_take 14 = .ok (.iconst 0, 1) := by decide +kernel
theorem d_M_take_15 : decode b_M_take 15 = .ok (.ireturn, 1) := by decide +kernel
theorem d_M_take_16 : decode b_M_take 16 = .ok (.aload_n 0, 1) := by decide +kernel
theorem d_M_take_17 : decode b_M_take 17 = .ok (.getfield 47, 3) := by decide +kernel
theorem d_M_take_20 : decode b_M_take 20 = .ok (.aload_n 0, 1) := by decide +kernel
theorem d_M_take_21 : decode b_M_take 21 = .ok (.getfield 249, 3) := by decide +kernel
theorem d_M_take_24 : decode b_M_take 24 = .ok (.lload_n 1, 1) := by decide +kernel
theorem d_M_take_25 : decode b_M_take 25 = .ok (.lastore, 1) := by decide +kernel
theorem d_M_take_26 : decode b_M_take 26 = .ok (.aload_n 0, 1) := by decide +kernel
theorem d_M_take_27 : decode b_M_take 27 = .ok (.dup, 1) := by decide +kernel
theorem d_M_take_28 : decode b_M_take 28 = .ok (.getfield 249, 3) := by decide +kernel
theorem d_M_take_31 : decode b_M_take 31 = .ok (.iconst 1, 1) := by decide +kernel
theorem d_M_take_32 : decode b_M_take 32 = .ok (.iadd, 1) := by decide +kernel
theorem d_M_take_33 : decode b_M_take 33 = .ok (.putfield 249, 3) := by decide +kernel
theorem d_M_take_36 : decode b_M_take 36 = .ok (.iconst 1, 1) := by decide +kernel
theorem d_M_take_37 : decode b_M_take 37 = .ok (.ireturn, 1) := by decide +kernel

abbrev b_M_isInside : ByteArray := prog_9_method_42_code
def y_M_isInside : MethodName := ⟨"RegistryLogModel", "isInside", "(IIJJ)Z"⟩
theorem d_M_isInside_0 : decode b_M_isInside 0 = .ok (.aload_n 0, 1) := by decide +kernel
theorem d_M_isInside_1 : decode b_M_isInside 1 = .ok (.iconst 0, 1) := by decide +kernel
theorem d_M_isInside_2 : decode b_M_isInside 2 = .ok (.putfield 108, 3) := by decide +kernel
theorem d_M_isInside_5 : decode b_M_isInside 5 = .ok (.aload_n 0, 1) := by decide +kernel
theorem d_M_isInside_6 : decode b_M_isInside 6 = .ok (.getfield 249, 3) := by decide +kernel
theorem d_M_isInside_9 : decode b_M_isInside 9 = .ok (.istore 7, 2) := by decide +kernel
theorem d_M_isInside_11 : decode b_M_isInside 11 = .ok (.aload_n 0, 1) := by decide +kernel
theorem d_M_isInside_12 : decode b_M_isInside 12 = .ok (.iconst 0, 1) := by decide +kernel
theorem d_M_isInside_13 : decode b_M_isInside 13 = .ok (.putfield 249, 3) := by decide +kernel
theorem d_M_isInside_16 : decode b_M_isInside 16 = .ok (.iload_n 2, 1) := by decide +kernel
theorem d_M_isInside_17 : decode b_M_isInside 17 = .ok (.iconst 1, 1) := by decide +kernel
theorem d_M_isInside_18 : decode b_M_isInside 18 = .ok (.if_icmp .lt 18, 3) := by decide +kernel
theorem d_M_isInside_21 : decode b_M_isInside 21 = .ok (.iload_n 2, 1) := by decide +kernel
theorem d_M_isInside_22 : decode b_M_isInside 22 = .ok (.bipush 120, 2) := by decide +kernel
theorem d_M_isInside_24 : decode b_M_isInside 24 = .ok (.if_icmp .gt 12, 3) := by decide +kernel
theorem d_M_isInside_27 : decode b_M_isInside 27 = .ok (.iload_n 1, 1) := by decide +kernel
theorem d_M_isInside_28 : decode b_M_isInside 28 = .ok (.ifCond .lt 8, 3) := by decide +kernel
theorem d_M_isInside_31 : decode b_M_isInside 31 = .ok (.iload_n 1, 1) := by decide +kernel
theorem d_M_isInside_32 : decode b_M_isInside 32 = .ok (.iload_n 2, 1) := by decide +kernel
theorem d_M_isInside_33 : decode b_M_isInside 33 = .ok (.if_icmp .lt 5, 3) := by decide +kernel
theorem d_M_isInside_36 : decode b_M_isInside 36 = .ok (.iconst 0, 1) := by decide +kernel
theorem d_M_isInside_37 : decode b_M_isInside 37 = .ok (.ireturn, 1) := by decide +kernel
theorem d_M_isInside_38 : decode b_M_isInside 38 = .ok (.aload_n 0, 1) := by decide +kernel
theorem d_M_isInside_39 : decode b_M_isInside 39 = .ok (.iload_n 1, 1) := by decide +kernel
theorem d_M_isInside_40 : decode b_M_isInside 40 = .ok (.iload_n 2, 1) := by decide +kernel
theorem d_M_isInside_41 : decode b_M_isInside 41 = .ok (.iconst 0, 1) := by decide +kernel
theorem d_M_isInside_42 : decode b_M_isInside 42 = .ok (.invokevirtual 241, 3) := by decide +kernel
theorem d_M_isInside_45 : decode b_M_isInside 45 = .ok (.aload_n 0, 1) := by decide +kernel
theorem d_M_isInside_46 : decode b_M_isInside 46 = .ok (.getfield 218, 3) := by decide +kernel
theorem d_M_isInside_49 : decode b_M_isInside 49 = .ok (.iload 7, 2) := by decide +kernel
theorem d_M_isInside_51 : decode b_M_isInside 51 = .ok (.if_icmp .eq 5, 3) := by decide +kernel
theorem d_M_isInside_54 : decode b_M_isInside 54 = .ok (.iconst 0, 1) := by decide +kernel
theorem d_M_isInside_55 : decode b_M_isInside 55 = .ok (.ireturn, 1) := by decide +kernel
theorem d_M_isInside_56 : decode b_M_isInside 56 = .ok (.lload_n 3, 1) := by decide +kernel
theorem d_M_isInside_57 : decode b_M_isInside 57 = .ok (.lstore 8, 2) := by decide +kernel
theorem d_M_isInside_59 : decode b_M_isInside 59 = .ok (.iconst 0, 1) := by decide +kernel
theorem d_M_isInside_60 : decode b_M_isInside 60 = .ok (.istore 10, 2) := by decide +kernel
theorem d_M_isInside_62 : decode b_M_isInside 62 = .ok (.iload 10, 2) := by decide +kernel
theorem d_M_isInside_64 : decode b_M_isInside 64 = .ok (.iload 7, 2) := by decide +kernel
theorem d_M_isInside_66 : decode b_M_isInside 66 = .ok (.if_icmp .ge 55, 3) := by decide +kernel
theorem d_M_isInside_69 : decode b_M_isInside 69 = .ok (.aload_n 0, 1) := by decide +kernel
theorem d_M_isInside_70 : decode b_M_isInside 70 = .ok (.getfield 104, 3) := by decide +kernel
theorem d_M_isInside_73 : decode b_M_isInside 73 = .ok (.aload_n 0, 1) := by decide +kernel
theorem d_M_isInside_74 : decode b_M_isInside 74 = .ok (.getfield 218, 3) := by decide +kernel
theorem d_M_isInside_77 : decode b_M_isInside 77 = .ok (.iconst 1, 1) := by decide +kernel
theorem d_M_isInside_78 : decode b_M_isInside 78 = .ok (.isub, 1) := by decide +kernel
theorem d_M_isInside_79 : decode b_M_isInside 79 = .ok (.iload 10, 2) := by decide +kernel
theorem d_M_isInside_81 : decode b_M_isInside 81 = .ok (.isub, 1) := by decide +kernel
theorem d_M_isInside_82 : decode b_M_isInside 82 = .ok (.baload, 1) := by decide +kernel
theorem d_M_isInside_83 : decode b_M_isInside 83 = .ok (.ifCond .eq 18, 3) := by decide +kernel
theorem d_M_isInside_86 : decode b_M_isInside 86 = .ok (.lload 8, 2) := by decide +kernel
theorem d_M_isInside_88 : decode b_M_isInside 88 = .ok (.aload_n 0, 1) := by decide +kernel
theorem d_M_isInside_89 : decode b_M_isInside 89 = .ok (.getfield 47, 3) := by decide +kernel
theorem d_M_isInside_92 : decode b_M_isInside 92 = .ok (.iload 10, 2) := by decide +kernel
theorem d_M_isInside_94 : decode b_M_isInside 94 = .ok (.laload, 1) := by decide +kernel
theorem d_M_isInside_95 : decode b_M_isInside 95 = .ok (.invokestatic 211, 3) := by decide +kernel
theorem d_M_isInside_98 : decode b_M_isInside 98 = .ok (.goto 15, 3) := by decide +kernel
theorem d_M_isInside_101 : decode b_M_isInside 101 = .ok (.aload_n 0, 1) := by decide +kernel
theorem d_M_isInside_102 : decode b_M_isInside 102 = .ok (.getfield 47, 3) := by decide +kernel
theorem d_M_isInside_105 : decode b_M_isInside 105 = .ok (.iload 10, 2) := by decide +kernel
theorem d_M_isInside_107 : decode b_M_isInside 107 = .ok (.laload, 1) := by decide +kernel
theorem d_M_isInside_108 : decode b_M_isInside 108 = .ok (.lload 8, 2) := by decide +kernel
theorem d_M_isInside_110 : decode b_M_isInside 110 = .ok (.invokestatic 211, 3) := by decide +kernel
theorem d_M_isInside_113 : decode b_M_isInside 113 = .ok (.lstore 8, 2) := by decide +kernel
theorem d_M_isInside_115 : decode b_M_isInside 115 = .ok (.iinc 10 1, 3) := by decide +kernel
theorem d_M_isInside_118 : decode b_M_isInside 118 = .ok (.goto (-56), 3) := by decide +kernel
theorem d_M_isInside_121 : decode b_M_isInside 121 = .ok (.lload 8, 2) := by decide +kernel
theorem d_M_isInside_123 : decode b_M_isInside 123 = .ok (.lload 5, 2) := by decide +kernel
theorem d_M_isInside_125 : decode b_M_isInside 125 = .ok (.lcmp, 1) := by decide +kernel
theorem d_M_isInside_126 : decode b_M_isInside 126 = .ok (.ifCond .ne 7, 3) := by decide +kernel
theorem d_M_isInside_129 : decode b_M_isInside 129 = .ok (.iconst 1, 1) := by decide +kernel
theorem d_M_isInside_130 : decode b_M_isInside 130 = .ok (.goto 4, 3) := by decide +kernel
theorem d_M_isInside_133 : decode b_M_isInside 133 = .ok (.iconst 0, 1) := by decide +kernel
theorem d_M_isInside_134 : decode b_M_isInside 134 = .ok (.ireturn, 1) := by decide +kernel

abbrev b_M_isGrowth : ByteArray := prog_9_method_43_code
def y_M_isGrowth : MethodName := ⟨"RegistryLogModel", "isGrowth", "(IIJJ)Z"⟩
theorem d_M_isGrowth_0 : decode b_M_isGrowth 0 = .ok (.aload_n 0, 1) := by decide +kernel
theorem d_M_isGrowth_1 : decode b_M_isGrowth 1 = .ok (.iconst 0, 1) := by decide +kernel
theorem d_M_isGrowth_2 : decode b_M_isGrowth 2 = .ok (.putfield 108, 3) := by decide +kernel
theorem d_M_isGrowth_5 : decode b_M_isGrowth 5 = .ok (.aload_n 0, 1) := by decide +kernel
theorem d_M_isGrowth_6 : decode b_M_isGrowth 6 = .ok (.getfield 249, 3) := by decide +kernel
theorem d_M_isGrowth_9 : decode b_M_isGrowth 9 = .ok (.istore 7, 2) := by decide +kernel
theorem d_M_isGrowth_11 : decode b_M_isGrowth 11 = .ok (.aload_n 0, 1) := by decide +kernel
theorem d_M_isGrowth_12 : decode b_M_isGrowth 12 = .ok (.iconst 0, 1) := by decide +kernel
theorem d_M_isGrowth_13 : decode b_M_isGrowth 13 = .ok (.putfield 249, 3) := by decide +kernel
theorem d_M_isGrowth_16 : decode b_M_isGrowth 16 = .ok (.iload_n 2, 1) := by decide +kernel
theorem d_M_isGrowth_17 : decode b_M_isGrowth 17 = .ok (.iconst 1, 1) := by decide +kernel
theorem d_M_isGrowth_18 : decode b_M_isGrowth 18 = .ok (.if_icmp .lt 19, 3) := by decide +kernel
theorem d_M_isGrowth_21 : decode b_M_isGrowth 21 = .ok (.iload_n 2, 1) := by decide +kernel
theorem d_M_isGrowth_22 : decode b_M_isGrowth 22 = .ok (.bipush 120, 2) := by decide +kernel
theorem d_M_isGrowth_24 : decode b_M_isGrowth 24 = .ok (.if_icmp .gt 13, 3) := by decide +kernel
theorem d_M_isGrowth_27 : decode b_M_isGrowth 27 = .ok (.iload_n 1, 1) := by decide +kernel
theorem d_M_isGrowth_28 : decode b_M_isGrowth 28 = .ok (.iconst 1, 1) := by decide +kernel
theorem d_M_isGrowth_29 : decode b_M_isGrowth 29 = .ok (.if_icmp .lt 8, 3) := by decide +kernel
theorem d_M_isGrowth_32 : decode b_M_isGrowth 32 = .ok (.iload_n 1, 1) := by decide +kernel
theorem d_M_isGrowth_33 : decode b_M_isGrowth 33 = .ok (.iload_n 2, 1) := by decide +kernel
theorem d_M_isGrowth_34 : decode b_M_isGrowth 34 = .ok (.if_icmp .le 5, 3) := by decide +kernel
theorem d_M_isGrowth_37 : decode b_M_isGrowth 37 = .ok (.iconst 0, 1) := by decide +kernel
theorem d_M_isGrowth_38 : decode b_M_isGrowth 38 = .ok (.ireturn, 1) := by decide +kernel
theorem d_M_isGrowth_39 : decode b_M_isGrowth 39 = .ok (.aload_n 0, 1) := by decide +kernel
theorem d_M_isGrowth_40 : decode b_M_isGrowth 40 = .ok (.iload_n 1, 1) := by decide +kernel
theorem d_M_isGrowth_41 : decode b_M_isGrowth 41 = .ok (.iload_n 2, 1) := by decide +kernel
theorem d_M_isGrowth_42 : decode b_M_isGrowth 42 = .ok (.iconst 1, 1) := by decide +kernel
theorem d_M_isGrowth_43 : decode b_M_isGrowth 43 = .ok (.invokevirtual 241, 3) := by decide +kernel
theorem d_M_isGrowth_46 : decode b_M_isGrowth 46 = .ok (.aload_n 0, 1) := by decide +kernel
theorem d_M_isGrowth_47 : decode b_M_isGrowth 47 = .ok (.getfield 230, 3) := by decide +kernel
theorem d_M_isGrowth_50 : decode b_M_isGrowth 50 = .ok (.ifCond .eq 7, 3) := by decide +kernel
theorem d_M_isGrowth_53 : decode b_M_isGrowth 53 = .ok (.iconst 0, 1) := by decide +kernel
theorem d_M_isGrowth_54 : decode b_M_isGrowth 54 = .ok (.goto 4, 3) := by decide +kernel
theorem d_M_isGrowth_57 : decode b_M_isGrowth 57 = .ok (.iconst 1, 1) := by decide +kernel
theorem d_M_isGrowth_58 : decode b_M_isGrowth 58 = .ok (.istore 8, 2) := by decide +kernel
theorem d_M_isGrowth_60 : decode b_M_isGrowth 60 = .ok (.aload_n 0, 1) := by decide +kernel
theorem d_M_isGrowth_61 : decode b_M_isGrowth 61 = .ok (.getfield 218, 3) := by decide +kernel
theorem d_M_isGrowth_64 : decode b_M_isGrowth 64 = .ok (.iload 8, 2) := by decide +kernel
theorem d_M_isGrowth_66 : decode b_M_isGrowth 66 = .ok (.iadd, 1) := by decide +kernel
theorem d_M_isGrowth_67 : decode b_M_isGrowth 67 = .ok (.iload 7, 2) := by decide +kernel
theorem d_M_isGrowth_69 : decode b_M_isGrowth 69 = .ok (.if_icmp .eq 5, 3) := by decide +kernel
theorem d_M_isGrowth_72 : decode b_M_isGrowth 72 = .ok (.iconst 0, 1) := by decide +kernel
theorem d_M_isGrowth_73 : decode b_M_isGrowth 73 = .ok (.ireturn, 1) := by decide +kernel
theorem d_M_isGrowth_74 : decode b_M_isGrowth 74 = .ok (.aload_n 0, 1) := by decide +kernel
theorem d_M_isGrowth_75 : decode b_M_isGrowth 75 = .ok (.getfield 230, 3) := by decide +kernel
theorem d_M_isGrowth_78 : decode b_M_isGrowth 78 = .ok (.ifCond .eq 7, 3) := by decide +kernel
theorem d_M_isGrowth_81 : decode b_M_isGrowth 81 = .ok (.lload_n 3, 1) := by decide +kernel
theorem d_M_isGrowth_82 : decode b_M_isGrowth 82 = .ok (.goto 9, 3) := by decide +kernel
theorem d_M_isGrowth_85 : decode b_M_isGrowth 85 = .ok (.aload_n 0, 1) := by decide +kernel
theorem d_M_isGrowth_86 : decode b_M_isGrowth 86 = .ok (.getfield 47, 3) := by decide +kernel
theorem d_M_isGrowth_89 : decode b_M_isGrowth 89 = .ok (.iconst 0, 1) := by decide +kernel
theorem d_M_isGrowth_90 : decode b_M_isGrowth 90 = .ok (.laload, 1) := by decide +kernel
theorem d_M_isGrowth_91 : decode b_M_isGrowth 91 = .ok (.lstore 9, 2) := by decide +kernel
theorem d_M_isGrowth_93 : decode b_M_isGrowth 93 = .ok (.lload 9, 2) := by decide +kernel
theorem d_M_isGrowth_95 : decode b_M_isGrowth 95 = .ok (.lstore 11, 2) := by decide +kernel
theorem d_M_isGrowth_97 : decode b_M_isGrowth 97 = .ok (.iload 8, 2) := by decide +kernel
theorem d_M_isGrowth_99 : decode b_M_isGrowth 99 = .ok (.istore 13, 2) := by decide +kernel
theorem d_M_isGrowth_101 : decode b_M_isGrowth 101 = .ok (.iload 13, 2) := by decide +kernel
theorem d_M_isGrowth_103 : decode b_M_isGrowth 103 = .ok (.iload 7, 2) := by decide +kernel
theorem d_M_isGrowth_105 : decode b_M_isGrowth 105 = .ok (.if_icmp .ge 86, 3) := by decide +kernel
theorem d_M_isGrowth_108 : decode b_M_isGrowth 108 = .ok (.aload_n 0, 1) := by decide +kernel
theorem d_M_isGrowth_109 : decode b_M_isGrowth 109 = .ok (.getfield 104, 3) := by decide +kernel
theorem d_M_isGrowth_112 : decode b_M_isGrowth 112 = .ok (.aload_n 0, 1) := by decide +kernel
theorem d_M_isGrowth_113 : decode b_M_isGrowth 113 = .ok (.getfield 218, 3) := by decide +kernel
theorem d_M_isGrowth_116 : decode b_M_isGrowth 116 = .ok (.iconst 1, 1) := by decide +kernel
theorem d_M_isGrowth_117 : decode b_M_isGrowth 117 = .ok (.isub, 1) := by decide +kernel
theorem d_M_isGrowth_118 : decode b_M_isGrowth 118 = .ok (.iload 13, 2) := by decide +kernel
theorem d_M_isGrowth_120 : decode b_M_isGrowth 120 = .ok (.iload 8, 2) := by decide +kernel
theorem d_M_isGrowth_122 : decode b_M_isGrowth 122 = .ok (.isub, 1) := by decide +kernel
theorem d_M_isGrowth_123 : decode b_M_isGrowth 123 = .ok (.isub, 1) := by decide +kernel
theorem d_M_isGrowth_124 : decode b_M_isGrowth 124 = .ok (.baload, 1) := by decide +kernel
theorem d_M_isGrowth_125 : decode b_M_isGrowth 125 = .ok (.istore 14, 2) := by decide +kernel
theorem d_M_isGrowth_127 : decode b_M_isGrowth 127 = .ok (.iload 14, 2) := by decide +kernel
theorem d_M_isGrowth_129 : decode b_M_isGrowth 129 = .ok (.ifCond .eq 18, 3) := by decide +kernel
theorem d_M_isGrowth_132 : decode b_M_isGrowth 132 = .ok (.lload 11, 2) := by decide +kernel
theorem d_M_isGrowth_134 : decode b_M_isGrowth 134 = .ok (.aload_n 0, 1) := by decide +kernel
theorem d_M_isGrowth_135 : decode b_M_isGrowth 135 = .ok (.getfield 47, 3) := by decide +kernel
theorem d_M_isGrowth_138 : decode b_M_isGrowth 138 = .ok (.iload 13, 2) := by decide +kernel
theorem d_M_isGrowth_140 : decode b_M_isGrowth 140 = .ok (.laload, 1) := by decide +kernel
theorem d_M_isGrowth_141 : decode b_M_isGrowth 141 = .ok (.invokestatic 211, 3) := by decide +kernel
theorem d_M_isGrowth_144 : decode b_M_isGrowth 144 = .ok (.goto 15, 3) := by decide +kernel
theorem d_M_isGrowth_147 : decode b_M_isGrowth 147 = .ok (.aload_n 0, 1) := by decide +kernel
theorem d_M_isGrowth_148 : decode b_M_isGrowth 148 = .ok (.getfield 47, 3) := by decide +kernel
theorem d_M_isGrowth_151 : decode b_M_isGrowth 151 = .ok (.iload 13, 2) := by decide +kernel
theorem d_M_isGrowth_153 : decode b_M_isGrowth 153 = .ok (.laload, 1) := by decide +kernel
theorem d_M_isGrowth_154 : decode b_M_isGrowth 154 = .ok (.lload 11, 2) := by decide +kernel
theorem d_M_isGrowth_156 : decode b_M_isGrowth 156 = .ok (.invokestatic 211, 3) := by decide +kernel
theorem d_M_isGrowth_159 : decode b_M_isGrowth 159 = .ok (.lstore 11, 2) := by decide +kernel
theorem d_M_isGrowth_161 : decode b_M_isGrowth 161 = .ok (.iload 14, 2) := by decide +kernel
theorem d_M_isGrowth_163 : decode b_M_isGrowth 163 = .ok (.ifCond .eq 8, 3) := by decide +kernel
theorem d_M_isGrowth_166 : decode b_M_isGrowth 166 = .ok (.lload 9, 2) := by decide +kernel
theorem d_M_isGrowth_168 : decode b_M_isGrowth 168 = .ok (.goto 15, 3) := by decide +kernel
theorem d_M_isGrowth_171 : decode b_M_isGrowth 171 = .ok (.aload_n 0, 1) := by decide +kernel
theorem d_M_isGrowth_172 : decode b_M_isGrowth 172 = .ok (.getfield 47, 3) := by decide +kernel
theorem d_M_isGrowth_175 : decode b_M_isGrowth 175 = .ok (.iload 13, 2) := by decide +kernel
theorem d_M_isGrowth_177 : decode b_M_isGrowth 177 = .ok (.laload, 1) := by decide +kernel
theorem d_M_isGrowth_178 : decode b_M_isGrowth 178 = .ok (.lload 9, 2) := by decide +kernel
theorem d_M_isGrowth_180 : decode b_M_isGrowth 180 = .ok (.invokestatic 211, 3) := by decide +kernel
theorem d_M_isGrowth_183 : decode b_M_isGrowth 183 = .ok (.lstore 9, 2) := by decide +kernel
theorem d_M_isGrowth_185 : decode b_M_isGrowth 185 = .ok (.iinc 13 1, 3) := by decide +kernel
theorem d_M_isGrowth_188 : decode b_M_isGrowth 188 = .ok (.goto (-87), 3) := by decide +kernel
theorem d_M_isGrowth_191 : decode b_M_isGrowth 191 = .ok (.lload 9, 2) := by decide +kernel
theorem d_M_isGrowth_193 : decode b_M_isGrowth 193 = .ok (.lload_n 3, 1) := by decide +kernel
theorem d_M_isGrowth_194 : decode b_M_isGrowth 194 = .ok (.lcmp, 1) := by decide +kernel
theorem d_M_isGrowth_195 : decode b_M_isGrowth 195 = .ok (.ifCond .ne 15, 3) := by decide +kernel
theorem d_M_isGrowth_198 : decode b_M_isGrowth 198 = .ok (.lload 11, 2) := by decide +kernel
theorem d_M_isGrowth_200 : decode b_M_isGrowth 200 = .ok (.lload 5, 2) := by decide +kernel
theorem d_M_isGrowth_202 : decode b_M_isGrowth 202 = .ok (.lcmp, 1) := by decide +kernel
theorem d_M_isGrowth_203 : decode b_M_isGrowth 203 = .ok (.ifCond .ne 7, 3) := by decide +kernel
theorem d_M_isGrowth_206 : decode b_M_isGrowth 206 = .ok (.iconst 1, 1) := by decide +kernel
theorem d_M_isGrowth_207 : decode b_M_isGrowth 207 = .ok (.goto 4, 3) := by decide +kernel
theorem d_M_isGrowth_210 : decode b_M_isGrowth 210 = .ok (.iconst 0, 1) := by decide +kernel
theorem d_M_isGrowth_211 : decode b_M_isGrowth 211 = .ok (.ireturn, 1) := by decide +kernel

abbrev b_M_isMirror : ByteArray := prog_9_method_44_code
def y_M_isMirror : MethodName := ⟨"RegistryLogModel", "isMirror", "(I)Z"⟩
theorem d_M_isMirror_0 : decode b_M_isMirror 0 = .ok (.iload_n 0, 1) := by decide +kernel
theorem d_M_isMirror_1 : decode b_M_isMirror 1 = .ok (.ifCond .lt 12, 3) := by decide +kernel
theorem d_M_isMirror_4 : decode b_M_isMirror 4 = .ok (.iload_n 0, 1) := by decide +kernel
theorem d_M_isMirror_5 : decode b_M_isMirror 5 = .ok (.iconst 4, 1) := by decide +kernel
theorem d_M_isMirror_6 : decode b_M_isMirror 6 = .ok (.if_icmp .ge 7, 3) := by decide +kernel
theorem d_M_isMirror_9 : decode b_M_isMirror 9 = .ok (.iconst 1, 1) := by decide +kernel
theorem d_M_isMirror_10 : decode b_M_isMirror 10 = .ok (.goto 4, 3) := by decide +kernel
theorem d_M_isMirror_13 : decode b_M_isMirror 13 = .ok (.iconst 0, 1) := by decide +kernel
theorem d_M_isMirror_14 : decode b_M_isMirror 14 = .ok (.ireturn, 1) := by decide +kernel

abbrev b_M_follow : ByteArray := prog_9_method_45_code
def y_M_follow : MethodName := ⟨"RegistryLogModel", "follow", "(II)I"⟩
theorem d_M_follow_0 : decode b_M_follow 0 = .ok (.aload_n 0, 1) := by decide +kernel
theorem d_M_follow_1 : decode b_M_follow 1 = .ok (.iconst 0, 1) := by decide +kernel
theorem d_M_follow_2 : decode b_M_follow 2 = .ok (.putfield 108, 3) := by decide +kernel
theorem d_M_follow_5 : decode b_M_follow 5 = .ok (.iload_n 1, 1) := by decide +kernel
theorem d_M_follow_6 : decode b_M_follow 6 = .ok (.invokestatic 252, 3) := by decide +kernel
theorem d_M_follow_9 : decode b_M_follow 9 = .ok (.ifCond .eq 7, 3) := by decide +kernel
theorem d_M_follow_12 : decode b_M_follow 12 = .ok (.iload_n 2, 1) := by decide +kernel
theorem d_M_follow_13 : decode b_M_follow 13 = .ok (.ifCond .ge 5, 3) := by decide +kernel
theorem d_M_follow_16 : decode b_M_follow 16 = .ok (.iconst (-1), 1) := by decide +kernel
theorem d_M_follow_17 : decode b_M_follow 17 = .ok (.ireturn, 1) := by decide +kernel
theorem d_M_follow_18 : decode b_M_follow 18 = .ok (.iconst 0, 1) := by decide +kernel
theorem d_M_follow_19 : decode b_M_follow 19 = .ok (.istore_n 3, 1) := by decide +kernel
theorem d_M_follow_20 : decode b_M_follow 20 = .ok (.iload_n 3, 1) := by decide +kernel
theorem d_M_follow_21 : decode b_M_follow 21 = .ok (.iload_n 2, 1) := by decide +kernel
theorem d_M_follow_22 : decode b_M_follow 22 = .ok (.if_icmp .ge 65, 3) := by decide +kernel
theorem d_M_follow_25 : decode b_M_follow 25 = .ok (.aload_n 0, 1) := by decide +kernel
theorem d_M_follow_26 : decode b_M_follow 26 = .ok (.getfield 40, 3) := by decide +kernel
theorem d_M_follow_29 : decode b_M_follow 29 = .ok (.iload_n 1, 1) := by decide +kernel
theorem d_M_follow_30 : decode b_M_follow 30 = .ok (.iaload, 1) := by decide +kernel
theorem d_M_follow_31 : decode b_M_follow 31 = .ok (.aload_n 0, 1) := by decide +kernel
theorem d_M_follow_32 : decode b_M_follow 32 = .ok (.getfield 40, 3) := by decide +kernel
theorem d_M_follow_35 : decode b_M_follow 35 = .ok (.iconst 4, 1) := by decide +kernel
theorem d_M_follow_36 : decode b_M_follow 36 = .ok (.iaload, 1) := by decide +kernel
theorem d_M_follow_37 : decode b_M_follow 37 = .ok (.if_icmp .ge 50, 3) := by decide +kernel
theorem d_M_follow_40 : decode b_M_follow 40 = .ok (.aload_n 0, 1) := by decide +kernel
theorem d_M_follow_41 : decode b_M_follow 41 = .ok (.getfield 37, 3) := by decide +kernel
theorem d_M_follow_44 : decode b_M_follow 44 = .ok (.bipush 120, 2) := by decide +kernel
theorem d_M_follow_46 : decode b_M_follow 46 = .ok (.iload_n 1, 1) := by decide +kernel
theorem d_M_follow_47 : decode b_M_follow 47 = .ok (.imul, 1) := by decide +kernel
theorem d_M_follow_48 : decode b_M_follow 48 = .ok (.aload_n 0, 1) := by decide +kernel
theorem d_M_follow_49 : decode b_M_follow 49 = .ok (.getfield 40, 3) := by decide +kernel
theorem d_M_follow_52 : decode b_M_follow 52 = .ok (.iload_n 1, 1) := by decide +kernel
theorem d_M_follow_53 : decode b_M_follow 53 = .ok (.iaload, 1) := by decide +kernel
theorem d_M_follow_54 : decode b_M_follow 54 = .ok (.iadd, 1) := by decide +kernel
theorem d_M_follow_55 : decode b_M_follow 55 = .ok (.aload_n 0, 1) := by decide +kernel
theorem d_M_follow_56 : decode b_M_follow 56 = .ok (.getfield 37, 3) := by decide +kernel
theorem d_M_follow_59 : decode b_M_follow 59 = .ok (.sipush 480, 3) := by decide +kernel
theorem d_M_follow_62 : decode b_M_follow 62 = .ok (.aload_n 0, 1) := by decide +kernel
theorem d_M_follow_63 : decode b_M_follow 63 = .ok (.getfield 40, 3) := by decide +kernel
theorem d_M_follow_66 : decode b_M_follow 66 = .ok (.iload_n 1, 1) := by decide +kernel
theorem d_M_follow_67 : decode b_M_follow 67 = .ok (.iaload, 1) := by decide +kernel
theorem d_M_follow_68 : decode b_M_follow 68 = .ok (.iadd, 1) := by decide +kernel
theorem d_M_follow_69 : decode b_M_follow 69 = .ok (.iaload, 1) := by decide +kernel
theorem d_M_follow_70 : decode b_M_follow 70 = .ok (.iastore, 1) := by decide +kernel
theorem d_M_follow_71 : decode b_M_follow 71 = .ok (.aload_n 0, 1) := by decide +kernel
theorem d_M_follow_72 : decode b_M_follow 72 = .ok (.getfield 40, 3) := by decide +kernel
theorem d_M_follow_75 : decode b_M_follow 75 = .ok (.iload_n 1, 1) := by decide +kernel
theorem d_M_follow_76 : decode b_M_follow 76 = .ok (.dup2, 1) := by decide +kernel
theorem d_M_follow_77 : decode b_M_follow 77 = .ok (.iaload, 1) := by decide +kernel
theorem d_M_follow_78 : decode b_M_follow 78 = .ok (.iconst 1, 1) := by decide +kernel
theorem d_M_follow_79 : decode b_M_follow 79 = .ok (.iadd, 1) := by decide +kernel
theorem d_M_follow_80 : decode b_M_follow 80 = .ok (.iastore, 1) := by decide +kernel
theorem d_M_follow_81 : decode b_M_follow 81 = .ok (.iinc 3 1, 3) := by decide +kernel
theorem d_M_follow_84 : decode b_M_follow 84 = .ok (.goto (-64), 3) := by decide +kernel
theorem d_M_follow_87 : decode b_M_follow 87 = .ok (.iload_n 3, 1) := by decide +kernel
theorem d_M_follow_88 : decode b_M_follow 88 = .ok (.ireturn, 1) := by decide +kernel

abbrev b_M_spoil : ByteArray := prog_9_method_46_code
def y_M_spoil : MethodName := ⟨"RegistryLogModel", "spoil", "(III)Z"⟩
theorem d_M_spoil_0 : decode b_M_spoil 0 = .ok (.aload_n 0, 1) := by decide +kernel
theorem d_M_spoil_1 : decode b_M_spoil 1 = .ok (.iconst 0, 1) := by decide +kernel
theorem d_M_spoil_2 : decode b_M_spoil 2 = .ok (.putfield 108, 3) := by decide +kernel
theorem d_M_spoil_5 : decode b_M_spoil 5 = .ok (.iload_n 1, 1) := by decide +kernel
theorem d_M_spoil_6 : decode b_M_spoil 6 = .ok (.invokestatic 252, 3) := by decide +kernel
theorem d_M_spoil_9 : decode b_M_spoil 9 = .ok (.ifCond .eq 26, 3) := by decide +kernel
theorem d_M_spoil_12 : decode b_M_spoil 12 = .ok (.iload_n 2, 1) := by decide +kernel
theorem d_M_spoil_13 : decode b_M_spoil 13 = .ok (.ifCond .lt 22, 3) := by decide +kernel
theorem d_M_spoil_16 : decode b_M_spoil 16 = .ok (.iload_n 2, 1) := by decide +kernel
theorem d_M_spoil_17 : decode b_M_spoil 17 = .ok (.aload_n 0, 1) := by decide +kernel
theorem d_M_spoil_18 : decode b_M_spoil 18 = .ok (.getfield 40, 3) := by decide +kernel
theorem d_M_spoil_21 : decode b_M_spoil 21 = .ok (.iload_n 1, 1) := by decide +kernel
theorem d_M_spoil_22 : decode b_M_spoil 22 = .ok (.iaload, 1) := by decide +kernel
theorem d_M_spoil_23 : decode b_M_spoil 23 = .ok (.if_icmp .ge 12, 3) := by decide +kernel
theorem d_M_spoil_26 : decode b_M_spoil 26 = .ok (.aload_n 0, 1) := by decide +kernel
theorem d_M_spoil_27 : decode b_M_spoil 27 = .ok (.getfield 13, 3) := by decide +kernel
theorem d_M_spoil_30 : decode b_M_spoil 30 = .ok (.iload_n 2, 1) := by decide +kernel
theorem d_M_spoil_31 : decode b_M_spoil 31 = .ok (.iaload, 1) := by decide +kernel
theorem d_M_spoil_32 : decode b_M_spoil 32 = .ok (.ifCond .eq 5, 3) := by decide +kernel
theorem d_M_spoil_35 : decode b_M_spoil 35 = .ok (.iconst 0, 1) := by decide +kernel
theorem d_M_spoil_36 : decode b_M_spoil 36 = .ok (.ireturn, 1) := by decide +kernel
theorem d_M_spoil_37 : decode b_M_spoil 37 = .ok (.aload_n 0, 1) := by decide +kernel
theorem d_M_spoil_38 : decode b_M_spoil 38 = .ok (.getfield 37, 3) := by decide +kernel
theorem d_M_spoil_41 : decode b_M_spoil 41 = .ok (.bipush 120, 2) := by decide +kernel
theorem d_M_spoil_43 : decode b_M_spoil 43 = .ok (.iload_n 1, 1) := by decide +kernel
theorem d_M_spoil_44 : decode b_M_spoil 44 = .ok (.imul, 1) := by decide +kernel
theorem d_M_spoil_45 : decode b_M_spoil 45 = .ok (.iload_n 2, 1) := by decide +kernel
theorem d_M_spoil_46 : decode b_M_spoil 46 = .ok (.iadd, 1) := by decide +kernel
theorem d_M_spoil_47 : decode b_M_spoil 47 = .ok (.iload_n 3, 1) := by decide +kernel
theorem d_M_spoil_48 : decode b_M_spoil 48 = .ok (.iastore, 1) := by decide +kernel
theorem d_M_spoil_49 : decode b_M_spoil 49 = .ok (.iconst 1, 1) := by decide +kernel
theorem d_M_spoil_50 : decode b_M_spoil 50 = .ok (.ireturn, 1) := by decide +kernel

abbrev b_M_mirrored : ByteArray := prog_9_method_47_code
def y_M_mirrored : MethodName := ⟨"RegistryLogModel", "mirrored", "(I)J"⟩
theorem d_M_mirrored_0 : decode b_M_mirrored 0 = .ok (.aload_n 0, 1) := by decide +kernel
theorem d_M_mirrored_1 : decode b_M_mirrored 1 = .ok (.iconst 0, 1) := by decide +kernel
theorem d_M_mirrored_2 : decode b_M_mirrored 2 = .ok (.putfield 108, 3) := by decide +kernel
theorem d_M_mirrored_5 : decode b_M_mirrored 5 = .ok (.iload_n 1, 1) := by decide +kernel
theorem d_M_mirrored_6 : decode b_M_mirrored 6 = .ok (.invokestatic 252, 3) := by decide +kernel
theorem d_M_mirrored_9 : decode b_M_mirrored 9 = .ok (.ifCond .eq 18, 3) := by decide +kernel
theorem d_M_mirrored_12 : decode b_M_mirrored 12 = .ok (.aload_n 0, 1) := by decide +kernel
theorem d_M_mirrored_13 : decode b_M_mirrored 13 = .ok (.iload_n 1, 1) := by decide +kernel
theorem d_M_mirrored_14 : decode b_M_mirrored 14 = .ok (.iconst 0, 1) := by decide +kernel
theorem d_M_mirrored_15 : decode b_M_mirrored 15 = .ok (.aload_n 0, 1) := by decide +kernel
theorem d_M_mirrored_16 : decode b_M_mirrored 16 = .ok (.getfield 40, 3) := by decide +kernel
theorem d_M_mirrored_19 : decode b_M_mirrored 19 = .ok (.iload_n 1, 1) := by decide +kernel
theorem d_M_mirrored_20 : decode b_M_mirrored 20 = .ok (.iaload, 1) := by decide +kernel
theorem d_M_mirrored_21 : decode b_M_mirrored 21 = .ok (.invokevirtual 214, 3) := by decide +kernel
theorem d_M_mirrored_24 : decode b_M_mirrored 24 = .ok (.goto 4, 3) := by decide +kernel
theorem d_M_mirrored_27 : decode b_M_mirrored 27 = .ok (.lconst 0, 1) := by decide +kernel
theorem d_M_mirrored_28 : decode b_M_mirrored 28 = .ok (.lreturn, 1) := by decide +kernel

abbrev b_M_apart : ByteArray := prog_9_method_48_code
def y_M_apart : MethodName := ⟨"RegistryLogModel", "apart", "(I)I"⟩
theorem d_M_apart_0 : decode b_M_apart 0 = .ok (.aload_n 0, 1) := by decide +kernel
theorem d_M_apart_1 : decode b_M_apart 1 = .ok (.iconst 0, 1) := by decide +kernel
theorem d_M_apart_2 : decode b_M_apart 2 = .ok (.putfield 108, 3) := by decide +kernel
theorem d_M_apart_5 : decode b_M_apart 5 = .ok (.iload_n 1, 1) := by decide +kernel
theorem d_M_apart_6 : decode b_M_apart 6 = .ok (.invokestatic 252, 3) := by decide +kernel
theorem d_M_apart_9 : decode b_M_apart 9 = .ok (.ifCond .ne 5, 3) := by decide +kernel
theorem d_M_apart_12 : decode b_M_apart 12 = .ok (.iconst (-1), 1) := by decide +kernel
theorem d_M_apart_13 : decode b_M_apart 13 = .ok (.ireturn, 1) := by decide +kernel
theorem d_M_apart_14 : decode b_M_apart 14 = .ok (.iconst 1, 1) := by decide +kernel
theorem d_M_apart_15 : decode b_M_apart 15 = .ok (.istore_n 2, 1) := by decide +kernel
theorem d_M_apart_16 : decode b_M_apart 16 = .ok (.iload_n 2, 1) := by decide +kernel
theorem d_M_apart_17 : decode b_M_apart 17 = .ok (.aload_n 0, 1) := by decide +kernel
theorem d_M_apart_18 : decode b_M_apart 18 = .ok (.getfield 40, 3) := by decide +kernel
theorem d_M_apart_21 : decode b_M_apart 21 = .ok (.iload_n 1, 1) := by decide +kernel
theorem d_M_apart_22 : decode b_M_apart 22 = .ok (.iaload, 1) := by decide +kernel
theorem d_M_apart_23 : decode b_M_apart 23 = .ok (.if_icmp .gt 29, 3) := by decide +kernel
theorem d_M_apart_26 : decode b_M_apart 26 = .ok (.aload_n 0, 1) := by decide +kernel
theorem d_M_apart_27 : decode b_M_apart 27 = .ok (.iload_n 1, 1) := by decide +kernel
theorem d_M_apart_28 : decode b_M_apart 28 = .ok (.iconst 0, 1) := by decide +kernel
theorem d_M_apart_29 : decode b_M_apart 29 = .ok (.iload_n 2, 1) := by decide +kernel
theorem d_M_apart_30 : decode b_M_apart 30 = .ok (.invokevirtual 214, 3) := by decide +kernel
theorem d_M_apart_33 : decode b_M_apart 33 = .ok (.aload_n 0, 1) := by decide +kernel
theorem d_M_apart_34 : decode b_M_apart 34 = .ok (.iconst 4, 1) := by decide +kernel
theorem d_M_apart_35 : decode b_M_apart 35 = .ok (.iconst 0, 1) := by decide +kernel
theorem d_M_apart_36 : decode b_M_apart 36 = .ok (.iload_n 2, 1) := by decide +kernel
theorem d_M_apart_37 : decode b_M_apart 37 = .ok (.invokevirtual 214, 3) := by decide +kernel
theorem d_M_apart_40 : decode b_M_apart 40 = .ok (.lcmp, 1) := by decide +kernel
theorem d_M_apart_41 : decode b_M_apart 41 = .ok (.ifCond .eq 5, 3) := by decide +kernel
theorem d_M_apart_44 : decode b_M_apart 44 = .ok (.iload_n 2, 1) := by decide +kernel
theorem d_M_apart_45 : decode b_M_apart 45 = .ok (.ireturn, 1) := by decide +kernel
theorem d_M_apart_46 : decode b_M_apart 46 = .ok (.iinc 2 1, 3) := by decide +kernel
theorem d_M_apart_49 : decode b_M_apart 49 = .ok (.goto (-33), 3) := by decide +kernel
theorem d_M_apart_52 : decode b_M_apart 52 = .ok (.iconst (-1), 1) := by decide +kernel
theorem d_M_apart_53 : decode b_M_apart 53 = .ok (.ireturn, 1) := by decide +kernel

abbrev b_M_asked : ByteArray := prog_9_method_49_code
def y_M_asked : MethodName := ⟨"RegistryLogModel", "asked", "(I)I"⟩
theorem d_M_asked_0 : decode b_M_asked 0 = .ok (.aload_n 0, 1) := by decide +kernel
theorem d_M_asked_1 : decode b_M_asked 1 = .ok (.iconst 0, 1) := by decide +kernel
theorem d_M_asked_2 : decode b_M_asked 2 = .ok (.invokevirtual 161, 3) := by decide +kernel
theorem d_M_asked_5 : decode b_M_asked 5 = .ok (.istore_n 2, 1) := by decide +kernel
theorem d_M_asked_6 : decode b_M_asked 6 = .ok (.iload_n 2, 1) := by decide +kernel
theorem d_M_asked_7 : decode b_M_asked 7 = .ok (.ifCond .eq 15, 3) := by decide +kernel
theorem d_M_asked_10 : decode b_M_asked 10 = .ok (.iload_n 1, 1) := by decide +kernel
theorem d_M_asked_11 : decode b_M_asked 11 = .ok (.iconst (-1), 1) := by decide +kernel
theorem d_M_asked_12 : decode b_M_asked 12 = .ok (.if_icmp .eq 12, 3) := by decide +kernel
theorem d_M_asked_15 : decode b_M_asked 15 = .ok (.iload_n 1, 1) := by decide +kernel
theorem d_M_asked_16 : decode b_M_asked 16 = .ok (.invokestatic 252, 3) := by decide +kernel
theorem d_M_asked_19 : decode b_M_asked 19 = .ok (.ifCond .ne 5, 3) := by decide +kernel
theorem d_M_asked_22 : decode b_M_asked 22 = .ok (.iconst (-1), 1) := by decide +kernel
theorem d_M_asked_23 : decode b_M_asked 23 = .ok (.ireturn, 1) := by decide +kernel
theorem d_M_asked_24 : decode b_M_asked 24 = .ok (.aload_n 0, 1) := by decide +kernel
theorem d_M_asked_25 : decode b_M_asked 25 = .ok (.iload_n 1, 1) := by decide +kernel
theorem d_M_asked_26 : decode b_M_asked 26 = .ok (.iconst (-1), 1) := by decide +kernel
theorem d_M_asked_27 : decode b_M_asked 27 = .ok (.if_icmp .ne 7, 3) := by decide +kernel
theorem d_M_asked_30 : decode b_M_asked 30 = .ok (.iconst 4, 1) := by decide +kernel
theorem d_M_asked_31 : decode b_M_asked 31 = .ok (.goto 4, 3) := by decide +kernel
theorem d_M_asked_34 : decode b_M_asked 34 = .ok (.iload_n 1, 1) := by decide +kernel
theorem d_M_asked_35 : decode b_M_asked 35 = .ok (.invokevirtual 171, 3) := by decide +kernel
theorem d_M_asked_38 : decode b_M_asked 38 = .ok (.aload_n 0, 1) := by decide +kernel
theorem d_M_asked_39 : decode b_M_asked 39 = .ok (.aload_n 0, 1) := by decide +kernel
theorem d_M_asked_40 : decode b_M_asked 40 = .ok (.getfield 80, 3) := by decide +kernel
theorem d_M_asked_43 : decode b_M_asked 43 = .ok (.iconst 0, 1) := by decide +kernel
theorem d_M_asked_44 : decode b_M_asked 44 = .ok (.aload_n 0, 1) := by decide +kernel
theorem d_M_asked_45 : decode b_M_asked 45 = .ok (.getfield 123, 3) := by decide +kernel
theorem d_M_asked_48 : decode b_M_asked 48 = .ok (.invokevirtual 142, 3) := by decide +kernel
theorem d_M_asked_51 : decode b_M_asked 51 = .ok (.istore_n 3, 1) := by decide +kernel
theorem d_M_asked_52 : decode b_M_asked 52 = .ok (.aload_n 0, 1) := by decide +kernel
theorem d_M_asked_53 : decode b_M_asked 53 = .ok (.iload_n 3, 1) := by decide +kernel
theorem d_M_asked_54 : decode b_M_asked 54 = .ok (.invokevirtual 154, 3) := by decide +kernel
theorem d_M_asked_57 : decode b_M_asked 57 = .ok (.ifCond .eq 7, 3) := by decide +kernel
theorem d_M_asked_60 : decode b_M_asked 60 = .ok (.iload_n 3, 1) := by decide +kernel
theorem d_M_asked_61 : decode b_M_asked 61 = .ok (.goto 4, 3) := by decide +kernel
theorem d_M_asked_64 : decode b_M_asked 64 = .ok (.iconst (-1), 1) := by decide +kernel
theorem d_M_asked_65 : decode b_M_asked 65 = .ok (.ireturn, 1) := by decide +kernel

abbrev b_M_founder : ByteArray := prog_9_method_50_code
def y_M_founder : MethodName := ⟨"RegistryLogModel", "founder", "(I)I"⟩
theorem d_M_founder_0 : decode b_M_founder 0 = .ok (.aload_n 0, 1) := by decide +kernel
theorem d_M_founder_1 : decode b_M_founder 1 = .ok (.iconst 0, 1) := by decide +kernel
theorem d_M_founder_2 : decode b_M_founder 2 = .ok (.putfield 108, 3) := by decide +kernel
theorem d_M_founder_5 : decode b_M_founder 5 = .ok (.aload_n 0, 1) := by decide +kernel
theorem d_M_founder_6 : decode b_M_founder 6 = .ok (.iload_n 1, 1) := by decide +kernel
theorem d_M_founder_7 : decode b_M_founder 7 = .ok (.invokevirtual 255, 3) := by decide +kernel
theorem d_M_founder_10 : decode b_M_founder 10 = .ok (.istore_n 2, 1) := by decide +kernel
theorem d_M_founder_11 : decode b_M_founder 11 = .ok (.iload_n 2, 1) := by decide +kernel
theorem d_M_founder_12 : decode b_M_founder 12 = .ok (.iconst (-1), 1) := by decide +kernel
theorem d_M_founder_13 : decode b_M_founder 13 = .ok (.if_icmp .ne 7, 3) := by decide +kernel
theorem d_M_founder_16 : decode b_M_founder 16 = .ok (.iconst (-1), 1) := by decide +kernel
theorem d_M_founder_17 : decode b_M_founder 17 = .ok (.goto 14, 3) := by decide +kernel
theorem d_M_founder_20 : decode b_M_founder 20 = .ok (.aload_n 0, 1) := by decide +kernel
theorem d_M_founder_21 : decode b_M_founder 21 = .ok (.getfield 62, 3) := by decide +kernel
theorem d_M_founder_24 : decode b_M_founder 24 = .ok (.aload_n 0, 1) := by decide +kernel
theorem d_M_founder_25 : decode b_M_founder 25 = .ok (.getfield 59, 3) := by decide +kernel
theorem d_M_founder_28 : decode b_M_founder 28 = .ok (.iload_n 2, 1) := by decide +kernel
theorem d_M_founder_29 : decode b_M_founder 29 = .ok (.iaload, 1) := by decide +kernel
theorem d_M_founder_30 : decode b_M_founder 30 = .ok (.iaload, 1) := by decide +kernel
theorem d_M_founder_31 : decode b_M_founder 31 = .ok (.ireturn, 1) := by decide +kernel

abbrev b_M_has : ByteArray := prog_9_method_51_code
def y_M_has : MethodName := ⟨"RegistryLogModel", "has", "(II)Z"⟩
theorem d_M_has_0 : decode b_M_has 0 = .ok (.aload_n 0, 1) := by decide +kernel
theorem d_M_has_1 : decode b_M_has 1 = .ok (.iconst 0, 1) := by decide +kernel
theorem d_M_has_2 : decode b_M_has 2 = .ok (.putfield 108, 3) := by decide +kernel
theorem d_M_has_5 : decode b_M_has 5 = .ok (.aload_n 0, 1) := by decide +kernel
theorem d_M_has_6 : decode b_M_has 6 = .ok (.iload_n 1, 1) := by decide +kernel
theorem d_M_has_7 : decode b_M_has 7 = .ok (.invokevirtual 255, 3) := by decide +kernel
theorem d_M_has_10 : decode b_M_has 10 = .ok (.istore_n 3, 1) := by decide +kernel
theorem d_M_has_11 : decode b_M_has 11 = .ok (.iload_n 3, 1) := by decide +kernel
theorem d_M_has_12 : decode b_M_has 12 = .ok (.iconst (-1), 1) := by decide +kernel
theorem d_M_has_13 : decode b_M_has 13 = .ok (.if_icmp .eq 23, 3) := by decide +kernel
theorem d_M_has_16 : decode b_M_has 16 = .ok (.iload_n 2, 1) := by decide +kernel
theorem d_M_has_17 : decode b_M_has 17 = .ok (.invokestatic 165, 3) := by decide +kernel
theorem d_M_has_20 : decode b_M_has 20 = .ok (.ifCond .eq 16, 3) := by decide +kernel
theorem d_M_has_23 : decode b_M_has 23 = .ok (.aload_n 0, 1) := by decide +kernel
theorem d_M_has_24 : decode b_M_has 24 = .ok (.iload_n 3, 1) := by decide +kernel
theorem d_M_has_25 : decode b_M_has 25 = .ok (.iload_n 2, 1) := by decide +kernel
theorem d_M_has_26 : decode b_M_has 26 = .ok (.invokevirtual 178, 3) := by decide +kernel
theorem d_M_has_29 : decode b_M_has 29 = .ok (.ifCond .eq 7, 3) := by decide +kernel
theorem d_M_has_32 : decode b_M_has 32 = .ok (.iconst 1, 1) := by decide +kernel
theorem d_M_has_33 : decode b_M_has 33 = .ok (.goto 4, 3) := by decide +kernel
theorem d_M_has_36 : decode b_M_has 36 = .ok (.iconst 0, 1) := by decide +kernel
theorem d_M_has_37 : decode b_M_has 37 = .ok (.ireturn, 1) := by decide +kernel

abbrev b_M_versionAsked : ByteArray := prog_9_method_52_code
def y_M_versionAsked : MethodName := ⟨"RegistryLogModel", "versionAsked", "(II)I"⟩
theorem d_M_versionAsked_0 : decode b_M_versionAsked 0 = .ok (.aload_n 0, 1) := by decide +kernel
theorem d_M_versionAsked_1 : decode b_M_versionAsked 1 = .ok (.iload_n 1, 1) := by decide +kernel
theorem d_M_versionAsked_2 : decode b_M_versionAsked 2 = .ok (.invokevirtual 255, 3) := by decide +kernel
theorem d_M_versionAsked_5 : decode b_M_versionAsked 5 = .ok (.istore_n 3, 1) := by decide +kernel
theorem d_M_versionAsked_6 : decode b_M_versionAsked 6 = .ok (.iload_n 3, 1) := by decide +kernel
theorem d_M_versionAsked_7 : decode b_M_versionAsked 7 = .ok (.iconst (-1), 1) := by decide +kernel
theorem d_M_versionAsked_8 : decode b_M_versionAsked 8 = .ok (.if_icmp .ne 7, 3) := by decide +kernel
theorem d_M_versionAsked_11 : decode b_M_versionAsked 11 = .ok (.iconst (-1), 1) := by decide +kernel
theorem d_M_versionAsked_12 : decode b_M_versionAsked 12 = .ok (.goto 14, 3) := by decide +kernel
theorem d_M_versionAsked_15 : decode b_M_versionAsked 15 = .ok (.aload_n 0, 1) := by decide +kernel
theorem d_M_versionAsked_16 : decode b_M_versionAsked 16 = .ok (.aload_n 0, 1) := by decide +kernel
theorem d_M_versionAsked_17 : decode b_M_versionAsked 17 = .ok (.getfield 59, 3) := by decide +kernel
theorem d_M_versionAsked_20 : decode b_M_versionAsked 20 = .ok (.iload_n 3, 1) := by decide +kernel
theorem d_M_versionAsked_21 : decode b_M_versionAsked 21 = .ok (.iaload, 1) := by decide +kernel
theorem d_M_versionAsked_22 : decode b_M_versionAsked 22 = .ok (.iload_n 2, 1) := by decide +kernel
theorem d_M_versionAsked_23 : decode b_M_versionAsked 23 = .ok (.invokevirtual 150, 3) := by decide +kernel
theorem d_M_versionAsked_26 : decode b_M_versionAsked 26 = .ok (.ireturn, 1) := by decide +kernel

abbrev b_M_version : ByteArray := prog_9_method_53_code
def y_M_version : MethodName := ⟨"RegistryLogModel", "version", "(II)I"⟩
theorem d_M_version_0 : decode b_M_version 0 = .ok (.aload_n 0, 1) := by decide +kernel
theorem d_M_version_1 : decode b_M_version 1 = .ok (.iconst 0, 1) := by decide +kernel
theorem d_M_version_2 : decode b_M_version 2 = .ok (.putfield 108, 3) := by decide +kernel
theorem d_M_version_5 : decode b_M_version 5 = .ok (.aload_n 0, 1) := by decide +kernel
theorem d_M_version_6 : decode b_M_version 6 = .ok (.iload_n 1, 1) := by decide +kernel
theorem d_M_version_7 : decode b_M_version 7 = .ok (.iload_n 2, 1) := by decide +kernel
theorem d_M_version_8 : decode b_M_version 8 = .ok (.invokevirtual 258, 3) := by decide +kernel
theorem d_M_version_11 : decode b_M_version 11 = .ok (.istore_n 3, 1) := by decide +kernel
theorem d_M_version_12 : decode b_M_version 12 = .ok (.iload_n 3, 1) := by decide +kernel
theorem d_M_version_13 : decode b_M_version 13 = .ok (.iconst (-1), 1) := by decide +kernel
theorem d_M_version_14 : decode b_M_version 14 = .ok (.if_icmp .ne 7, 3) := by decide +kernel
theorem d_M_version_17 : decode b_M_version 17 = .ok (.iconst 0, 1) := by decide +kernel
theorem d_M_version_18 : decode b_M_version 18 = .ok (.goto 11, 3) := by decide +kernel
theorem d_M_version_21 : decode b_M_version 21 = .ok (.iconst 1, 1) := by decide +kernel
theorem d_M_version_22 : decode b_M_version 22 = .ok (.aload_n 0, 1) := by decide +kernel
theorem d_M_version_23 : decode b_M_version 23 = .ok (.getfield 77, 3) := by decide +kernel
theorem d_M_version_26 : decode b_M_version 26 = .ok (.iload_n 3, 1) := by decide +kernel
theorem d_M_version_27 : decode b_M_version 27 = .ok (.iaload, 1) := by decide +kernel
theorem d_M_version_28 : decode b_M_version 28 = .ok (.iadd, 1) := by decide +kernel
theorem d_M_version_29 : decode b_M_version 29 = .ok (.ireturn, 1) := by decide +kernel

abbrev b_M_sum : ByteArray := prog_9_method_54_code
def y_M_sum : MethodName := ⟨"RegistryLogModel", "sum", "(II)I"⟩
theorem d_M_sum_0 : decode b_M_sum 0 = .ok (.aload_n 0, 1) := by decide +kernel
theorem d_M_sum_1 : decode b_M_sum 1 = .ok (.iconst 0, 1) := by decide +kernel
theorem d_M_sum_2 : decode b_M_sum 2 = .ok (.putfield 108, 3) := by decide +kernel
theorem d_M_sum_5 : decode b_M_sum 5 = .ok (.aload_n 0, 1) := by decide +kernel
theorem d_M_sum_6 : decode b_M_sum 6 = .ok (.iload_n 1, 1) := by decide +kernel
theorem d_M_sum_7 : decode b_M_sum 7 = .ok (.iload_n 2, 1) := by decide +kernel
theorem d_M_sum_8 : decode b_M_sum 8 = .ok (.invokevirtual 258, 3) := by decide +kernel
theorem d_M_sum_11 : decode b_M_sum 11 = .ok (.istore_n 3, 1) := by decide +kernel
theorem d_M_sum_12 : decode b_M_sum 12 = .ok (.iload_n 3, 1) := by decide +kernel
theorem d_M_sum_13 : decode b_M_sum 13 = .ok (.iconst (-1), 1) := by decide +kernel
theorem d_M_sum_14 : decode b_M_sum 14 = .ok (.if_icmp .ne 7, 3) := by decide +kernel
theorem d_M_sum_17 : decode b_M_sum 17 = .ok (.iconst 0, 1) := by decide +kernel
theorem d_M_sum_18 : decode b_M_sum 18 = .ok (.goto 9, 3) := by decide +kernel
theorem d_M_sum_21 : decode b_M_sum 21 = .ok (.aload_n 0, 1) := by decide +kernel
theorem d_M_sum_22 : decode b_M_sum 22 = .ok (.getfield 74, 3) := by decide +kernel
theorem d_M_sum_25 : decode b_M_sum 25 = .ok (.iload_n 3, 1) := by decide +kernel
theorem d_M_sum_26 : decode b_M_sum 26 = .ok (.iaload, 1) := by decide +kernel
theorem d_M_sum_27 : decode b_M_sum 27 = .ok (.ireturn, 1) := by decide +kernel
end
section
set_option maxHeartbeats 4000000 in
set_option maxRecDepth 100000 in
/-- isPerson -/
theorem c_M_isPerson (l : Launch) (g : gG) (H : Heap) (i : Int32) : Met l y_M_isPerson (wC y_M_isPerson b_M_isPerson 1 (some .boolean)) (rmk 0 0 0 0) (pC g H [.int i]) (qP H (fun v => v = some (.int (bI (decide (0 ≤ i ∧ i < 8)))))) 0 0 no_ := by
  refine mB (by decide) (Nat.le_of_ble_eq_true rfl) ?_
  intro p e s m below meth c ls C0 hH hZ hnm hl
  have C0 : cF g p s m _ meth c b_M_isPerson 1 "RegistryLogModel" (some .boolean) := C0
  obtain ⟨hx, hb, hml, hown, hts, hr, hlk, hK⟩ := id C0
  subst hH
  have hl : lv_has ls 1 [(0, .int i)] := hl
  refine lv_iload_n hx hb d_M_isPerson_0 rfl (lv_at hl 0 rfl) ?_
  refine lv_if_lt (tgt := 14) hx hb d_M_isPerson_1 (by decide) (fun c1 => ?_) (fun c1 => ?_)
  · skip
    refine lv_iconst (v := nI 0) hx hb d_M_isPerson_14 (by decide) ?_
    exact W.zret hx hb hr rfl (fun t9 ht hW => ⟨_, rfl, by rw [decide_eq_false (fun z => absurd z.1 (Int32.not_le.mpr c1))]; rfl, ht⟩) (fun q h => by cases h) d_M_isPerson_15 hlk
  · skip
    refine lv_iload_n hx hb d_M_isPerson_4 rfl (lv_at hl 0 rfl) ?_
    refine lv_bipush (v := nI 8) hx hb d_M_isPerson_5 (by decide) ?_
    refine lv_icmp_ge (tgt := 14) hx hb d_M_isPerson_7 (by decide) (fun c7 => ?_) (fun c7 => ?_)
    · skip
      refine lv_iconst (v := nI 0) hx hb d_M_isPerson_14 (by decide) ?_
      exact W.zret hx hb hr rfl (fun t9 ht hW => ⟨_, rfl, by rw [decide_eq_false (fun z => absurd z.2 (Int32.not_lt.mpr c7))]; rfl, ht⟩) (fun q h => by cases h) d_M_isPerson_15 hlk
    · skip
      refine lv_iconst (v := nI 1) hx hb d_M_isPerson_10 (by decide) ?_
      refine lv_goto (tgt := 15) hx hb d_M_isPerson_11 (by decide) ?_
      exact W.zret hx hb hr rfl (fun t9 ht hW => ⟨_, rfl, by rw [decide_eq_true ⟨Int32.not_lt.mp c1, Int32.not_le.mp c7⟩]; rfl, ht⟩) (fun q h => by cases h) d_M_isPerson_15 hlk
set_option maxHeartbeats 4000000 in
set_option maxRecDepth 100000 in
/-- isVersion -/
theorem c_M_isVersion (l : Launch) (g : gG) (H : Heap) (i : Int32) : Met l y_M_isVersion (wC y_M_isVersion b_M_isVersion 1 (some .boolean)) (rmk 0 0 0 0) (pC g H [.int i]) (qP H (fun v => v = some (.int (bI (decide (0 ≤ i ∧ i < 1000)))))) 0 0 no_ := by
  refine mB (by decide) (Nat.le_of_ble_eq_true rfl) ?_
  intro p e s m below meth c ls C0 hH hZ hnm hl
  have C0 : cF g p s m _ meth c b_M_isVersion 1 "RegistryLogModel" (some .boolean) := C0
  obtain ⟨hx, hb, hml, hown, hts, hr, hlk, hK⟩ := id C0
  subst hH
  have hl : lv_has ls 1 [(0, .int i)] := hl
  refine lv_iload_n hx hb d_M_isVersion_0 rfl (lv_at hl 0 rfl) ?_
  refine lv_if_lt (tgt := 15) hx hb d_M_isVersion_1 (by decide) (fun c1 => ?_) (fun c1 => ?_)
  · skip
    refine lv_iconst (v := nI 0) hx hb d_M_isVersion_15 (by decide) ?_
    exact W.zret hx hb hr rfl (fun t9 ht hW => ⟨_, rfl, by rw [decide_eq_false (fun z => absurd z.1 (Int32.not_le.mpr c1))]; rfl, ht⟩) (fun q h => by cases h) d_M_isVersion_16 hlk
  · skip
    refine lv_iload_n hx hb d_M_isVersion_4 rfl (lv_at hl 0 rfl) ?_
    refine lv_sipush (v := nI 1000) hx hb d_M_isVersion_5 (by decide) ?_
    refine lv_icmp_ge (tgt := 15) hx hb d_M_isVersion_8 (by decide) (fun c8 => ?_) (fun c8 => ?_)
    · skip
      refine lv_iconst (v := nI 0) hx hb d_M_isVersion_15 (by decide) ?_
      exact W.zret hx hb hr rfl (fun t9 ht hW => ⟨_, rfl, by rw [decide_eq_false (fun z => absurd z.2 (Int32.not_lt.mpr c8))]; rfl, ht⟩) (fun q h => by cases h) d_M_isVersion_16 hlk
    · skip
      refine lv_iconst (v := nI 1) hx hb d_M_isVersion_11 (by decide) ?_
      refine lv_goto (tgt := 16) hx hb d_M_isVersion_12 (by decide) ?_
      exact W.zret hx hb hr rfl (fun t9 ht hW => ⟨_, rfl, by rw [decide_eq_true ⟨Int32.not_lt.mp c1, Int32.not_le.mp c8⟩]; rfl, ht⟩) (fun q h => by cases h) d_M_isVersion_16 hlk
set_option maxHeartbeats 4000000 in
set_option maxRecDepth 100000 in
/-- isMirror -/
theorem c_M_isMirror (l : Launch) (g : gG) (H : Heap) (i : Int32) : Met l y_M_isMirror (wC y_M_isMirror b_M_isMirror 1 (some .boolean)) (rmk 0 0 0 0) (pC g H [.int i]) (qP H (fun v => v = some (.int (bI (decide (0 ≤ i ∧ i < 4)))))) 0 0 no_ := by
  refine mB (by decide) (Nat.le_of_ble_eq_true rfl) ?_
  intro p e s m below meth c ls C0 hH hZ hnm hl
  have C0 : cF g p s m _ meth c b_M_isMirror 1 "RegistryLogModel" (some .boolean) := C0
  obtain ⟨hx, hb, hml, hown, hts, hr, hlk, hK⟩ := id C0
  subst hH
  have hl : lv_has ls 1 [(0, .int i)] := hl
  refine lv_iload_n hx hb d_M_isMirror_0 rfl (lv_at hl 0 rfl) ?_
  refine lv_if_lt (tgt := 13) hx hb d_M_isMirror_1 (by decide) (fun c1 => ?_) (fun c1 => ?_)
  · skip
    refine lv_iconst (v := nI 0) hx hb d_M_isMirror_13 (by decide) ?_
    exact W.zret hx hb hr rfl (fun t9 ht hW => ⟨_, rfl, by rw [decide_eq_false (fun z => absurd z.1 (Int32.not_le.mpr c1))]; rfl, ht⟩) (fun q h => by cases h) d_M_isMirror_14 hlk
  · skip
    refine lv_iload_n hx hb d_M_isMirror_4 rfl (lv_at hl 0 rfl) ?_
    refine lv_iconst (v := nI 4) hx hb d_M_isMirror_5 (by decide) ?_
    refine lv_icmp_ge (tgt := 13) hx hb d_M_isMirror_6 (by decide) (fun c6 => ?_) (fun c6 => ?_)
    · skip
      refine lv_iconst (v := nI 0) hx hb d_M_isMirror_13 (by decide) ?_
      exact W.zret hx hb hr rfl (fun t9 ht hW => ⟨_, rfl, by rw [decide_eq_false (fun z => absurd z.2 (Int32.not_lt.mpr c6))]; rfl, ht⟩) (fun q h => by cases h) d_M_isMirror_14 hlk
    · skip
      refine lv_iconst (v := nI 1) hx hb d_M_isMirror_9 (by decide) ?_
      refine lv_goto (tgt := 14) hx hb d_M_isMirror_10 (by decide) ?_
      exact W.zret hx hb hr rfl (fun t9 ht hW => ⟨_, rfl, by rw [decide_eq_true ⟨Int32.not_lt.mp c1, Int32.not_le.mp c6⟩]; rfl, ht⟩) (fun q h => by cases h) d_M_isMirror_14 hlk
set_option maxHeartbeats 4000000 in
set_option maxRecDepth 100000 in
/-- MIX -/
theorem c_M_mix (l : Launch) (g : gG) (H : Heap) (h x : Int64) : Met l y_M_mix (wC y_M_mix b_M_mix 6 (some .long)) (rmk 0 0 0 0) (pC g H [.long h, .long x]) (qP H (fun v => v = some (.long (mixS h x)))) 0 0 no_ := by
  refine mB (by decide) (Nat.le_of_ble_eq_true rfl) ?_
  intro p e s m below meth c ls C0 hH hZ hnm hl
  have C0 : cF g p s m _ meth c b_M_mix 6 "RegistryLogModel" (some .long) := C0
  obtain ⟨hx, hb, hml, hown, hts, hr, hlk, hK⟩ := id C0
  subst hH
  have hl : lv_has ls 6 [(0, .long h), (2, .long x)] := hl
  refine lv_lload_n hx hb d_M_mix_0 rfl (lv_at hl 0 rfl) ?_
  refine lv_lload_n hx hb d_M_mix_1 rfl (lv_at hl 1 rfl) ?_
  refine lv_lxor hx hb d_M_mix_2 ?_
  refine lv_ldc2 (v := (-7046029254386353131)) hx hb hown (hts (.constantLong "RegistryLogModel" 199 (-7046029254386353131)) (in_5 (List.mem_of_getElem? (i := 225) rfl) rfl)) d_M_mix_3 ?_
  refine lv_lmul hx hb d_M_mix_6 ?_
  refine lv_topl (fun x_1 ex_1 => ?_)
  refine lv_lstore (lv' := [(4, .long x_1), (0, .long h), (2, .long x)]) hx hb d_M_mix_7 hl (by decide) rfl (fun ls hl => ?_)
  refine lv_lload hx hb d_M_mix_9 (lv_at hl 0 rfl) ?_
  refine lv_lload hx hb d_M_mix_11 (lv_at hl 0 rfl) ?_
  refine lv_bipush (v := 29) hx hb d_M_mix_13 (by decide) ?_
  refine lv_lushr hx hb d_M_mix_15 rfl ?_
  refine lv_lxor hx hb d_M_mix_16 ?_
  subst ex_1
  exact W.lret hx hb hr (fun t9 ht hW => ⟨_, rfl, rfl, ht⟩) (fun q h => by cases h) d_M_mix_17 hlk
theorem k_M_join_2 : kS "RegistryLogModel" 201 y_M_mix b_M_mix 6 (some .long) 2 := ⟨(in_5 (List.mem_of_getElem? (i := 222) rfl) rfl), (in_5 (List.mem_of_getElem? (i := 223) rfl) rfl), (in_1 (List.mem_of_getElem? (i := 22) rfl) rfl), (in_5 (List.mem_of_getElem? (i := 224) rfl) rfl), ⟨by decide, by decide, by decide +kernel⟩⟩
theorem k_M_join_6 : kS "RegistryLogModel" 201 y_M_mix b_M_mix 6 (some .long) 2 := ⟨(in_5 (List.mem_of_getElem? (i := 222) rfl) rfl), (in_5 (List.mem_of_getElem? (i := 223) rfl) rfl), (in_1 (List.mem_of_getElem? (i := 22) rfl) rfl), (in_5 (List.mem_of_getElem? (i := 224) rfl) rfl), ⟨by decide, by decide, by decide +kernel⟩⟩
set_option maxHeartbeats 4000000 in
set_option maxRecDepth 100000 in
/-- JOIN -/
theorem c_M_join (l : Launch) (g : gG) (H : Heap) (a b : Int64) : Met l y_M_join (wC y_M_join b_M_join 4 (some .long)) (rmk 1 0 0 25) (pC g H [.long a, .long b]) (qP H (fun v => v = some (.long (joinS a b)))) 0 0 no_ := by
  refine mB (by decide) (Nat.le_of_ble_eq_true rfl) ?_
  intro p e s m below meth c ls C0 hH hZ hnm hl
  have C0 : cF g p s m _ meth c b_M_join 4 "RegistryLogModel" (some .long) := C0
  obtain ⟨hx, hb, hml, hown, hts, hr, hlk, hK⟩ := id C0
  subst hH
  have hl : lv_has ls 4 [(0, .long a), (2, .long b)] := hl
  refine lv_lconst (v := 1) hx hb d_M_join_0 (by decide) ?_
  refine lv_lload_n hx hb d_M_join_1 rfl (lv_at hl 0 rfl) ?_
  refine aP (rS (As := [.long 1, .long a]) (rest := []) C0 (c_M_mix l g s.heap 1 a) hZ k_M_join_2 rfl rfl ⟨Nat.le_of_ble_eq_true rfl, Nat.le_of_ble_eq_true rfl⟩ rfl hl.1 rfl (Nat.le_of_ble_eq_true rfl) d_M_join_2 ⟨Nat.zero_le _, Nat.zero_le _⟩) ?_
  intro v hv; subst hv
  refine W.eq (g2 := F0 m 5 ls [.long (mixS 1 a)]) rfl ?_
  refine lv_lload_n hx hb d_M_join_5 rfl (lv_at hl 1 rfl) ?_
  refine aP (rS (As := [.long (mixS 1 a), .long b]) (rest := []) C0 (c_M_mix l g s.heap (mixS 1 a) b) hZ k_M_join_6 rfl rfl ⟨Nat.le_of_ble_eq_true rfl, Nat.le_of_ble_eq_true rfl⟩ rfl hl.1 rfl (Nat.le_of_ble_eq_true rfl) d_M_join_6 ⟨Nat.zero_le _, Nat.zero_le _⟩) ?_
  intro v hv; subst hv
  refine W.eq (g2 := F0 m 9 ls [.long (mixS (mixS 1 a) b)]) rfl ?_
  exact W.lret hx hb hr (fun t9 ht hW => ⟨_, rfl, rfl, ht⟩) (fun q h => by cases h) d_M_join_9 hlk
def letS (c : Nat) : Bool := decide (97 ≤ c ∧ c ≤ 122)
set_option maxHeartbeats 4000000 in
set_option maxRecDepth 100000 in
/-- isLetter -/
theorem c_M_isLetter (l : Launch) (g : gG) (H : Heap) (w0 : Nat) (hw0 : w0 < 65536) : Met l y_M_isLetter (wC y_M_isLetter b_M_isLetter 1 (some .boolean)) (rmk 0 0 0 0) (pC g H [.int (nI w0)]) (qP H (fun v => v = some (.int (bI (letS w0))))) 0 0 no_ := by
  refine mB (by decide) (Nat.le_of_ble_eq_true rfl) ?_
  intro p e s m below meth c ls C0 hH hZ hnm hl
  have C0 : cF g p s m _ meth c b_M_isLetter 1 "RegistryLogModel" (some .boolean) := C0
  obtain ⟨hx, hb, hml, hown, hts, hr, hlk, hK⟩ := id C0
  subst hH
  have hl : lv_has ls 1 [(0, .int (nI w0))] := hl
  refine lv_iload_n hx hb d_M_isLetter_0 rfl (lv_at hl 0 rfl) ?_
  refine lv_bipush (v := nI 97) hx hb d_M_isLetter_1 (by decide) ?_
  refine n_lt (tgt := 16) (a := w0) (b := 97) hx hb d_M_isLetter_3 (by decide) (by omega) (by omega) (fun c3 => ?_) (fun c3 => ?_)
  · skip
    refine lv_iconst (v := nI 0) hx hb d_M_isLetter_16 (by decide) ?_
    exact W.zret hx hb hr rfl (fun t9 ht hW => ⟨_, rfl, by rw [letS, decide_eq_false (by omega)]; rfl, ht⟩) (fun q h => by cases h) d_M_isLetter_17 hlk
  · skip
    refine lv_iload_n hx hb d_M_isLetter_6 rfl (lv_at hl 0 rfl) ?_
    refine lv_bipush (v := nI 122) hx hb d_M_isLetter_7 (by decide) ?_
    refine n_gt (tgt := 16) (a := w0) (b := 122) hx hb d_M_isLetter_9 (by decide) (by omega) (by omega) (fun c9 => ?_) (fun c9 => ?_)
    · skip
      refine lv_iconst (v := nI 0) hx hb d_M_isLetter_16 (by decide) ?_
      exact W.zret hx hb hr rfl (fun t9 ht hW => ⟨_, rfl, by rw [letS, decide_eq_false (by omega)]; rfl, ht⟩) (fun q h => by cases h) d_M_isLetter_17 hlk
    · skip
      refine lv_iconst (v := nI 1) hx hb d_M_isLetter_12 (by decide) ?_
      refine lv_goto (tgt := 17) hx hb d_M_isLetter_13 (by decide) ?_
      exact W.zret hx hb hr rfl (fun t9 ht hW => ⟨_, rfl, by rw [letS, decide_eq_true (by omega)]; rfl, ht⟩) (fun q h => by cases h) d_M_isLetter_17 hlk
set_option maxHeartbeats 4000000 in
set_option maxRecDepth 100000 in
/-- thrown() -/
theorem c_M_thrown (l : Launch) (g : gG) (H : Heap) (x : Nat) (ad : Nat → Nat) (F : Nat → Int32) (A : Nat → Nat → Int32) (B : Nat → Nat → Int64) (hm0 : mW g H x ad F A B)  : Met l y_M_thrown (wC y_M_thrown b_M_thrown 1 (some .int)) (rmk 0 0 0 0) (pC g H [.ref x]) (qP H (fun v => v = some (.int (F 0)))) 0 0 no_ := by
  refine mB (by decide) (Nat.le_of_ble_eq_true rfl) ?_
  intro p e s m below meth c ls C0 hH hZ hnm hl
  have C0 : cF g p s m _ meth c b_M_thrown 1 "RegistryLogModel" (some .int) := C0
  obtain ⟨hx, hb, hml, hown, hts, hr, hlk, hK⟩ := id C0
  subst hH
  have hl : lv_has ls 1 [(0, .ref x)] := hl
  have hm := mS.rf hm0
  refine lv_aload_n hx hb d_M_thrown_0 rfl (lv_at hl 0 rfl) ?_
  refine m_get hx hb hts hown hK hm 0 (by decide) (hts (.fieldLink "RegistryLogModel" 108 "RegistryLogModel" "code" "I") (in_4 (List.mem_of_getElem? (i := 209) rfl) rfl)) rfl (v := .int (F 0)) rfl d_M_thrown_1 ?_
  exact W.iret hx hb hr (fun t9 ht hW => ⟨_, rfl, rfl, ht⟩) (fun q h => by cases h) d_M_thrown_4 hlk
def hfL : Nat → Nat → Nat → Nat
  | 0, _, k => k
  | b + 1, n, k => if 2 * k < n then hfL b n (2 * k) else k
theorem hf_fp : ∀ n, n < 121 → hfL 8 n 1 = fpS n := by decide +kernel
set_option maxHeartbeats 4000000 in
set_option maxRecDepth 100000 in
theorem lp_M_half {p : Program} {l : Launch} {e : Env} {s : State} {m : MethodId} {args : Array Value} {below : List Frame} {meth : Method} {c : Code} {g : gG} (C0 : cF g p s m args meth c b_M_half 2 "RegistryLogModel" (some .int)) (n res : Nat) (hn : n ≤ 120) :
    ∀ (b k : Nat), 120 ≤ k * 2 ^ b → k ≤ 119 → hfL b n k = res → ∀ (ls : Array Slot), lv_has ls 2 [(0, .int (nI n)), (1, .int (nI k))] → W p l e (rmk 0 0 0 0) s m args below meth c s.heap [] 0 0 (MQ below (qP s.heap (fun v => v = some (.int (nI res)))) args s 0 0 no_) (F0 m 2 ls []) := by
  obtain ⟨hx, hb, hml, hown, hts, hr, hlk, hK⟩ := id C0
  intro b
  induction b with
  | zero => intro k h1 h2; exact absurd h1 (by omega)
  | succ b ih =>
    intro k h1 h2 hres ls hl
    refine lv_iconst (v := nI 2) hx hb d_M_half_2 (by decide) ?_
    refine lv_iload_n hx hb d_M_half_3 rfl (lv_at hl 1 rfl) ?_
    refine n_imul hx hb d_M_half_4 ?_
    refine lv_iload_n hx hb d_M_half_5 rfl (lv_at hl 0 rfl) ?_
    refine n_ge (tgt := 16) (a := 2 * k) (b := n) hx hb d_M_half_6 (by decide) (by omega) (by omega) (fun c6 => ?_) (fun c6 => ?_)
    · skip
      refine lv_iload_n hx hb d_M_half_16 rfl (lv_at hl 1 rfl) ?_
      rw [hfL, if_neg (by omega)] at hres
      exact W.iret hx hb hr (fun t9 ht hW => ⟨_, rfl, by rw [← hres], ht⟩) (fun q h => by cases h) d_M_half_17 hlk
    · skip
      refine lv_iload_n hx hb d_M_half_9 rfl (lv_at hl 1 rfl) ?_
      refine lv_iconst (v := nI 2) hx hb d_M_half_10 (by decide) ?_
      refine n_imul hx hb d_M_half_11 ?_
      refine lv_istore_n (lv' := [(1, .int (nI (k * 2))), (0, .int (nI n))]) hx hb d_M_half_12 rfl hl (by decide) rfl (fun ls hl => ?_)
      refine lv_goto (tgt := 2) hx hb d_M_half_13 (by decide) ?_
      rw [hfL, if_pos c6] at hres
      have e9 : k * 2 = 2 * k := Nat.mul_comm k 2
      rw [e9] at hl
      exact ih (2 * k) (by rw [Nat.pow_succ] at h1; have := h1; rw [show 2 * k * 2 ^ b = k * (2 ^ b * 2) by rw [Nat.mul_comm (2 ^ b) 2, ← Nat.mul_assoc, Nat.mul_comm k 2]]; exact this) (by omega) hres ls (lv_sub hl [1, 0] rfl)
set_option maxHeartbeats 4000000 in
set_option maxRecDepth 100000 in
/-- half -/
theorem c_M_half (l : Launch) (g : gG) (H : Heap) (n : Nat) (hn : n ≤ 120) : Met l y_M_half (wC y_M_half b_M_half 2 (some .int)) (rmk 0 0 0 0) (pC g H [.int (nI n)]) (qP H (fun v => v = some (.int (nI (fpS n))))) 0 0 no_ := by
  refine mB (by decide) (Nat.le_of_ble_eq_true rfl) ?_
  intro p e s m below meth c ls C0 hH hZ hnm hl
  have C0 : cF g p s m _ meth c b_M_half 2 "RegistryLogModel" (some .int) := C0
  obtain ⟨hx, hb, hml, hown, hts, hr, hlk, hK⟩ := id C0
  subst hH
  have hl : lv_has ls 2 [(0, .int (nI n))] := hl
  refine lv_iconst (v := nI 1) hx hb d_M_half_0 (by decide) ?_
  refine lv_istore_n (lv' := [(1, .int (nI 1)), (0, .int (nI n))]) hx hb d_M_half_1 rfl hl (by decide) rfl (fun ls hl => ?_)
  rw [← hf_fp n (by omega)]
  exact lp_M_half C0 n _ hn 8 1 (by decide) (by decide) rfl ls (lv_sub hl [1, 0] rfl)
set_option maxHeartbeats 4000000 in
set_option maxRecDepth 100000 in
/-- type(c) -/
theorem c_M_type (l : Launch) (g : gG) (H : Heap) (x : Nat) (ad : Nat → Nat) (F : Nat → Int32) (A : Nat → Nat → Int32) (B : Nat → Nat → Int64) (hm0 : mW g H x ad F A B) (w0 n : Nat) (hw0 : w0 < 65536) (hn : F 2 = nI n) (hn24 : n ≤ 24) : Met l y_M_type (wC y_M_type b_M_type 2 (some .boolean)) (rmk 0 0 0 0) (pC g H [.ref x, .int (nI w0)]) (qM g H x ad (fun v F1 A1 B1 => if 32 ≤ w0 ∧ w0 ≤ 126 ∧ n < 24 then (v = some (.int 1) ∧ F1 = upd (upd F 0 (nI 0)) 2 (nI (n + 1)) ∧ A1 = updA A 1 (upd (A 1) n (nI w0)) ∧ B1 = B) else (v = some (.int 0) ∧ F1 = upd F 0 (nI 0) ∧ A1 = A ∧ B1 = B))) 0 0 (mN x ad) := by
  refine mB (by decide) (Nat.le_of_ble_eq_true rfl) ?_
  intro p e s m below meth c ls C0 hH hZ hnm hl
  have C0 : cF g p s m _ meth c b_M_type 2 "RegistryLogModel" (some .boolean) := C0
  obtain ⟨hx, hb, hml, hown, hts, hr, hlk, hK⟩ := id C0
  subst hH
  have hl : lv_has ls 2 [(0, .ref x), (1, .int (nI w0))] := hl
  have hm := mS.rf hm0
  refine lv_aload_n hx hb d_M_type_0 rfl (lv_at hl 0 rfl) ?_
  refine lv_iconst (v := nI 0) hx hb d_M_type_1 (by decide) ?_
  refine m_put hx hb hts hown hK hm 0 (by decide) (hts (.fieldLink "RegistryLogModel" 108 "RegistryLogModel" "code" "I") (in_4 (List.mem_of_getElem? (i := 209) rfl) rfl)) rfl rfl (v := nI 0) rfl rfl rfl rfl d_M_type_2 (fun H locs hm => ?_)
  refine lv_iload_n hx hb d_M_type_5 rfl (lv_at hl 1 rfl) ?_
  refine lv_bipush (v := nI 32) hx hb d_M_type_6 (by decide) ?_
  refine n_lt (tgt := 26) (a := w0) (b := 32) hx hb d_M_type_8 (by decide) (by omega) (by omega) (fun c8 => ?_) (fun c8 => ?_)
  · skip
    refine lv_iconst (v := nI 0) hx hb d_M_type_26 (by decide) ?_
    exact W.zret hx hb hr rfl (fun t9 ht hW => ⟨_, _, _, _, rfl, by rw [ht]; exact ⟨hm.1, hm.2.1, hm.2.2.1, fun _ h => by cases h⟩, by (try dsimp only); rw [if_neg (by omega)]; exact ⟨rfl, rfl, rfl, rfl⟩⟩) hm.2.2.2 d_M_type_27 hlk
  · skip
    refine lv_iload_n hx hb d_M_type_11 rfl (lv_at hl 1 rfl) ?_
    refine lv_bipush (v := nI 126) hx hb d_M_type_12 (by decide) ?_
    refine n_gt (tgt := 26) (a := w0) (b := 126) hx hb d_M_type_14 (by decide) (by omega) (by omega) (fun c14 => ?_) (fun c14 => ?_)
    · skip
      refine lv_iconst (v := nI 0) hx hb d_M_type_26 (by decide) ?_
      exact W.zret hx hb hr rfl (fun t9 ht hW => ⟨_, _, _, _, rfl, by rw [ht]; exact ⟨hm.1, hm.2.1, hm.2.2.1, fun _ h => by cases h⟩, by (try dsimp only); rw [if_neg (by omega)]; exact ⟨rfl, rfl, rfl, rfl⟩⟩) hm.2.2.2 d_M_type_27 hlk
    · skip
      refine lv_aload_n hx hb d_M_type_17 rfl (lv_at hl 0 rfl) ?_
      refine m_get hx hb hts hown hK hm 2 (by decide) (hts (.fieldLink "RegistryLogModel" 112 "RegistryLogModel" "typed" "I") (in_4 (List.mem_of_getElem? (i := 211) rfl) rfl)) rfl (v := .int (nI n)) (congrArg (fun z => some (Value.int z)) hn) d_M_type_18 ?_
      refine lv_bipush (v := nI 24) hx hb d_M_type_21 (by decide) ?_
      refine n_ne (tgt := 28) (a := n) (b := 24) hx hb d_M_type_23 (by decide) (by omega) (by omega) (fun c23 => ?_) (fun c23 => ?_)
      · skip
        refine lv_aload_n hx hb d_M_type_28 rfl (lv_at hl 0 rfl) ?_
        refine m_get hx hb hts hown hK hm 1 (by decide) (hts (.fieldLink "RegistryLogModel" 7 "RegistryLogModel" "text" "[I") (in_4 (List.mem_of_getElem? (i := 210) rfl) rfl)) rfl (v := .ref (ad 1)) rfl d_M_type_29 ?_
        refine lv_aload_n hx hb d_M_type_32 rfl (lv_at hl 0 rfl) ?_
        refine m_get hx hb hts hown hK hm 2 (by decide) (hts (.fieldLink "RegistryLogModel" 112 "RegistryLogModel" "typed" "I") (in_4 (List.mem_of_getElem? (i := 211) rfl) rfl)) rfl (v := .int (nI n)) (congrArg (fun z => some (Value.int z)) hn) d_M_type_33 ?_
        refine lv_iload_n hx hb d_M_type_36 rfl (lv_at hl 1 rfl) ?_
        refine m_st hx hb hK hm 1 rfl n rfl (show n < 24 from by omega) d_M_type_37 (fun H locs hm => ?_)
        have hm : mS g s.heap H x ad (upd F 0 (nI 0)) (updA A 1 (upd (A 1) n (nI w0))) B locs := hm
        refine lv_aload_n hx hb d_M_type_38 rfl (lv_at hl 0 rfl) ?_
        refine lv_dup hx hb d_M_type_39 rfl ?_
        refine m_get hx hb hts hown hK hm 2 (by decide) (hts (.fieldLink "RegistryLogModel" 112 "RegistryLogModel" "typed" "I") (in_4 (List.mem_of_getElem? (i := 211) rfl) rfl)) rfl (v := .int (nI n)) (congrArg (fun z => some (Value.int z)) hn) d_M_type_40 ?_
        refine lv_iconst (v := nI 1) hx hb d_M_type_43 (by decide) ?_
        refine n_iadd hx hb d_M_type_44 ?_
        refine m_put hx hb hts hown hK hm 2 (by decide) (hts (.fieldLink "RegistryLogModel" 112 "RegistryLogModel" "typed" "I") (in_4 (List.mem_of_getElem? (i := 211) rfl) rfl)) rfl rfl (v := nI (n + 1)) rfl rfl rfl rfl d_M_type_45 (fun H locs hm => ?_)
        refine lv_iconst (v := nI 1) hx hb d_M_type_48 (by decide) ?_
        exact W.zret hx hb hr rfl (fun t9 ht hW => ⟨_, _, _, _, rfl, by rw [ht]; exact ⟨hm.1, hm.2.1, hm.2.2.1, fun _ h => by cases h⟩, by (try dsimp only); rw [if_pos (by omega)]; exact ⟨rfl, rfl, rfl, rfl⟩⟩) hm.2.2.2 d_M_type_49 hlk
      · skip
        refine lv_iconst (v := nI 0) hx hb d_M_type_26 (by decide) ?_
        exact W.zret hx hb hr rfl (fun t9 ht hW => ⟨_, _, _, _, rfl, by rw [ht]; exact ⟨hm.1, hm.2.1, hm.2.2.1, fun _ h => by cases h⟩, by (try dsimp only); rw [if_neg (by omega)]; exact ⟨rfl, rfl, rfl, rfl⟩⟩) hm.2.2.2 d_M_type_27 hlk
set_option maxHeartbeats 4000000 in
set_option maxRecDepth 100000 in
/-- refuses -/
theorem c_M_refuses (l : Launch) (g : gG) (H : Heap) (x : Nat) (ad : Nat → Nat) (F : Nat → Int32) (A : Nat → Nat → Int32) (B : Nat → Nat → Int64) (hm0 : mW g H x ad F A B) (b0 b1 : Bool) : Met l y_M_refuses (wC y_M_refuses b_M_refuses 3 (some .boolean)) (rmk 0 0 0 0) (pC g H [.ref x, .int (bI b0), .int (bI b1)]) (qM g H x ad (fun v F1 A1 B1 => v = some (.int (bI (b0 || b1))) ∧ F1 = upd F 0 (if b0 then nI 1 else if b1 then nI 2 else nI 0) ∧ A1 = A ∧ B1 = B)) 0 0 (mN x ad) := by
  refine mB (by decide) (Nat.le_of_ble_eq_true rfl) ?_
  intro p e s m below meth c ls C0 hH hZ hnm hl
  have C0 : cF g p s m _ meth c b_M_refuses 3 "RegistryLogModel" (some .boolean) := C0
  obtain ⟨hx, hb, hml, hown, hts, hr, hlk, hK⟩ := id C0
  subst hH
  have hl : lv_has ls 3 [(0, .ref x), (1, .int (bI b0)), (2, .int (bI b1))] := hl
  have hm := mS.rf hm0
  refine lv_aload_n hx hb d_M_refuses_0 rfl (lv_at hl 0 rfl) ?_
  refine lv_iload_n hx hb d_M_refuses_1 rfl (lv_at hl 1 rfl) ?_
  refine z_eq (tgt := 9) (v := b0) hx hb d_M_refuses_2 (by decide) (fun c2 => ?_) (fun c2 => ?_)
  · skip
    refine lv_iload_n hx hb d_M_refuses_9 rfl (lv_at hl 2 rfl) ?_
    refine z_eq (tgt := 17) (v := b1) hx hb d_M_refuses_10 (by decide) (fun c10 => ?_) (fun c10 => ?_)
    · skip
      refine lv_iconst (v := nI 0) hx hb d_M_refuses_17 (by decide) ?_
      refine m_put hx hb hts hown hK hm 0 (by decide) (hts (.fieldLink "RegistryLogModel" 108 "RegistryLogModel" "code" "I") (in_4 (List.mem_of_getElem? (i := 209) rfl) rfl)) rfl rfl (v := nI 0) rfl rfl rfl rfl d_M_refuses_18 (fun H locs hm => ?_)
      refine lv_aload_n hx hb d_M_refuses_21 rfl (lv_at hl 0 rfl) ?_
      refine m_get hx hb hts hown hK hm 0 (by decide) (hts (.fieldLink "RegistryLogModel" 108 "RegistryLogModel" "code" "I") (in_4 (List.mem_of_getElem? (i := 209) rfl) rfl)) rfl (v := .int (nI 0)) rfl d_M_refuses_22 ?_
      refine lv_if_le (tgt := 32) hx hb d_M_refuses_25 (by decide) (fun c25 => ?_) (fun c25 => ?_)
      · skip
        refine lv_iconst (v := nI 0) hx hb d_M_refuses_32 (by decide) ?_
        exact W.zret hx hb hr rfl (fun t9 ht hW => ⟨_, _, _, _, rfl, by rw [ht]; exact ⟨hm.1, hm.2.1, hm.2.2.1, fun _ h => by cases h⟩, ⟨by first | rfl | (rw [c2]; rfl) | (rw [c2, c10]; rfl), by first | (rw [c2]; rfl) | (rw [c2, c10]; rfl), rfl, rfl⟩⟩) hm.2.2.2 d_M_refuses_33 hlk
      · skip
        first | exact absurd c25 (by decide) | exact absurd (by decide) c25
    · skip
      refine lv_iconst (v := nI 2) hx hb d_M_refuses_13 (by decide) ?_
      refine lv_goto (tgt := 18) hx hb d_M_refuses_14 (by decide) ?_
      refine m_put hx hb hts hown hK hm 0 (by decide) (hts (.fieldLink "RegistryLogModel" 108 "RegistryLogModel" "code" "I") (in_4 (List.mem_of_getElem? (i := 209) rfl) rfl)) rfl rfl (v := nI 2) rfl rfl rfl rfl d_M_refuses_18 (fun H locs hm => ?_)
      refine lv_aload_n hx hb d_M_refuses_21 rfl (lv_at hl 0 rfl) ?_
      refine m_get hx hb hts hown hK hm 0 (by decide) (hts (.fieldLink "RegistryLogModel" 108 "RegistryLogModel" "code" "I") (in_4 (List.mem_of_getElem? (i := 209) rfl) rfl)) rfl (v := .int (nI 2)) rfl d_M_refuses_22 ?_
      refine lv_if_le (tgt := 32) hx hb d_M_refuses_25 (by decide) (fun c25 => ?_) (fun c25 => ?_)
      · skip
        first | exact absurd c25 (by decide) | exact absurd (by decide) c25
      · skip
        refine lv_iconst (v := nI 1) hx hb d_M_refuses_28 (by decide) ?_
        refine lv_goto (tgt := 33) hx hb d_M_refuses_29 (by decide) ?_
        exact W.zret hx hb hr rfl (fun t9 ht hW => ⟨_, _, _, _, rfl, by rw [ht]; exact ⟨hm.1, hm.2.1, hm.2.2.1, fun _ h => by cases h⟩, ⟨by first | rfl | (rw [c2]; rfl) | (rw [c2, c10]; rfl), by first | (rw [c2]; rfl) | (rw [c2, c10]; rfl), rfl, rfl⟩⟩) hm.2.2.2 d_M_refuses_33 hlk
  · skip
    refine lv_iconst (v := nI 1) hx hb d_M_refuses_5 (by decide) ?_
    refine lv_goto (tgt := 18) hx hb d_M_refuses_6 (by decide) ?_
    refine m_put hx hb hts hown hK hm 0 (by decide) (hts (.fieldLink "RegistryLogModel" 108 "RegistryLogModel" "code" "I") (in_4 (List.mem_of_getElem? (i := 209) rfl) rfl)) rfl rfl (v := nI 1) rfl rfl rfl rfl d_M_refuses_18 (fun H locs hm => ?_)
    refine lv_aload_n hx hb d_M_refuses_21 rfl (lv_at hl 0 rfl) ?_
    refine m_get hx hb hts hown hK hm 0 (by decide) (hts (.fieldLink "RegistryLogModel" 108 "RegistryLogModel" "code" "I") (in_4 (List.mem_of_getElem? (i := 209) rfl) rfl)) rfl (v := .int (nI 1)) rfl d_M_refuses_22 ?_
    refine lv_if_le (tgt := 32) hx hb d_M_refuses_25 (by decide) (fun c25 => ?_) (fun c25 => ?_)
    · skip
      first | exact absurd c25 (by decide) | exact absurd (by decide) c25
    · skip
      refine lv_iconst (v := nI 1) hx hb d_M_refuses_28 (by decide) ?_
      refine lv_goto (tgt := 33) hx hb d_M_refuses_29 (by decide) ?_
      exact W.zret hx hb hr rfl (fun t9 ht hW => ⟨_, _, _, _, rfl, by rw [ht]; exact ⟨hm.1, hm.2.1, hm.2.2.1, fun _ h => by cases h⟩, ⟨by first | rfl | (rw [c2]; rfl) | (rw [c2, c10]; rfl), by first | (rw [c2]; rfl) | (rw [c2, c10]; rfl), rfl, rfl⟩⟩) hm.2.2.2 d_M_refuses_33 hlk
set_option maxHeartbeats 4000000 in
set_option maxRecDepth 100000 in
/-- rows() -/
theorem c_M_rows (l : Launch) (g : gG) (H : Heap) (x : Nat) (ad : Nat → Nat) (F : Nat → Int32) (A : Nat → Nat → Int32) (B : Nat → Nat → Int64) (hm0 : mW g H x ad F A B) (n : Nat) (hc : A 12 4 = nI n) : Met l y_M_rows (wC y_M_rows b_M_rows 1 (some .int)) (rmk 0 0 0 0) (pC g H [.ref x]) (qM g H x ad (fun v F1 A1 B1 => v = some (.int (nI n)) ∧ F1 = upd F 0 (nI 0) ∧ A1 = A ∧ B1 = B)) 0 0 (mN x ad) := by
  refine mB (by decide) (Nat.le_of_ble_eq_true rfl) ?_
  intro p e s m below meth c ls C0 hH hZ hnm hl
  have C0 : cF g p s m _ meth c b_M_rows 1 "RegistryLogModel" (some .int) := C0
  obtain ⟨hx, hb, hml, hown, hts, hr, hlk, hK⟩ := id C0
  subst hH
  have hl : lv_has ls 1 [(0, .ref x)] := hl
  have hm := mS.rf hm0
  refine lv_aload_n hx hb d_M_rows_0 rfl (lv_at hl 0 rfl) ?_
  refine lv_iconst (v := nI 0) hx hb d_M_rows_1 (by decide) ?_
  refine m_put hx hb hts hown hK hm 0 (by decide) (hts (.fieldLink "RegistryLogModel" 108 "RegistryLogModel" "code" "I") (in_4 (List.mem_of_getElem? (i := 209) rfl) rfl)) rfl rfl (v := nI 0) rfl rfl rfl rfl d_M_rows_2 (fun H locs hm => ?_)
  refine lv_aload_n hx hb d_M_rows_5 rfl (lv_at hl 0 rfl) ?_
  refine m_get hx hb hts hown hK hm 12 (by decide) (hts (.fieldLink "RegistryLogModel" 40 "RegistryLogModel" "copied" "[I") (in_4 (List.mem_of_getElem? (i := 221) rfl) rfl)) rfl (v := .ref (ad 12)) rfl d_M_rows_6 ?_
  refine lv_iconst (v := nI 4) hx hb d_M_rows_9 (by decide) ?_
  refine m_ld hx hb hK hm 12 rfl 4 rfl (show 4 < 5 from by omega) d_M_rows_10 ?_
  refine W.eq (g2 := F0 m 11 ls [.int (nI n)]) (by rw [hc]) ?_
  exact W.iret hx hb hr (fun t9 ht hW => ⟨_, _, _, _, rfl, by rw [ht]; exact ⟨hm.1, hm.2.1, hm.2.2.1, fun _ h => by cases h⟩, ⟨rfl, rfl, rfl, rfl⟩⟩) hm.2.2.2 d_M_rows_11 hlk
set_option maxHeartbeats 4000000 in
set_option maxRecDepth 100000 in
/-- isRow(i) -/
theorem c_M_isRow (l : Launch) (g : gG) (H : Heap) (x : Nat) (ad : Nat → Nat) (F : Nat → Int32) (A : Nat → Nat → Int32) (B : Nat → Nat → Int64) (hm0 : mW g H x ad F A B) (n : Nat) (hc : A 12 4 = nI n) (i : Int32) : Met l y_M_isRow (wC y_M_isRow b_M_isRow 2 (some .boolean)) (rmk 0 0 0 0) (pC g H [.ref x, .int i]) (qP H (fun v => v = some (.int (bI (decide (0 ≤ i ∧ i < nI n)))))) 0 0 no_ := by
  refine mB (by decide) (Nat.le_of_ble_eq_true rfl) ?_
  intro p e s m below meth c ls C0 hH hZ hnm hl
  have C0 : cF g p s m _ meth c b_M_isRow 2 "RegistryLogModel" (some .boolean) := C0
  obtain ⟨hx, hb, hml, hown, hts, hr, hlk, hK⟩ := id C0
  subst hH
  have hl : lv_has ls 2 [(0, .ref x), (1, .int i)] := hl
  have hm := mS.rf hm0
  refine lv_iload_n hx hb d_M_isRow_0 rfl (lv_at hl 1 rfl) ?_
  refine lv_if_lt (tgt := 18) hx hb d_M_isRow_1 (by decide) (fun c1 => ?_) (fun c1 => ?_)
  · skip
    refine lv_iconst (v := nI 0) hx hb d_M_isRow_18 (by decide) ?_
    exact W.zret hx hb hr rfl (fun t9 ht hW => ⟨_, rfl, by rw [decide_eq_false (fun z => absurd z.1 (Int32.not_le.mpr c1))]; rfl, ht⟩) (fun q h => by cases h) d_M_isRow_19 hlk
  · skip
    refine lv_iload_n hx hb d_M_isRow_4 rfl (lv_at hl 1 rfl) ?_
    refine lv_aload_n hx hb d_M_isRow_5 rfl (lv_at hl 0 rfl) ?_
    refine m_get hx hb hts hown hK hm 12 (by decide) (hts (.fieldLink "RegistryLogModel" 40 "RegistryLogModel" "copied" "[I") (in_4 (List.mem_of_getElem? (i := 221) rfl) rfl)) rfl (v := .ref (ad 12)) rfl d_M_isRow_6 ?_
    refine lv_iconst (v := nI 4) hx hb d_M_isRow_9 (by decide) ?_
    refine m_ld hx hb hK hm 12 rfl 4 rfl (show 4 < 5 from by omega) d_M_isRow_10 ?_
    refine W.eq (g2 := F0 m 11 ls [.int (nI n), .int i]) (by rw [hc]) ?_
    refine lv_icmp_ge (tgt := 18) hx hb d_M_isRow_11 (by decide) (fun c11 => ?_) (fun c11 => ?_)
    · skip
      refine lv_iconst (v := nI 0) hx hb d_M_isRow_18 (by decide) ?_
      exact W.zret hx hb hr rfl (fun t9 ht hW => ⟨_, rfl, by rw [decide_eq_false (fun z => absurd z.2 (Int32.not_lt.mpr c11))]; rfl, ht⟩) (fun q h => by cases h) d_M_isRow_19 hlk
    · skip
      refine lv_iconst (v := nI 1) hx hb d_M_isRow_14 (by decide) ?_
      refine lv_goto (tgt := 19) hx hb d_M_isRow_15 (by decide) ?_
      exact W.zret hx hb hr rfl (fun t9 ht hW => ⟨_, rfl, by rw [decide_eq_true ⟨Int32.not_lt.mp c1, Int32.not_le.mp c11⟩]; rfl, ht⟩) (fun q h => by cases h) d_M_isRow_19 hlk
set_option maxHeartbeats 4000000 in
set_option maxRecDepth 100000 in
/-- isFull() -/
theorem c_M_isFull (l : Launch) (g : gG) (H : Heap) (x : Nat) (ad : Nat → Nat) (F : Nat → Int32) (A : Nat → Nat → Int32) (B : Nat → Nat → Int64) (hm0 : mW g H x ad F A B) (n : Nat) (hc : A 12 4 = nI n) (hn : n ≤ 120) : Met l y_M_isFull (wC y_M_isFull b_M_isFull 1 (some .boolean)) (rmk 0 0 0 0) (pC g H [.ref x]) (qP H (fun v => v = some (.int (bI (decide (n = 120)))))) 0 0 no_ := by
  refine mB (by decide) (Nat.le_of_ble_eq_true rfl) ?_
  intro p e s m below meth c ls C0 hH hZ hnm hl
  have C0 : cF g p s m _ meth c b_M_isFull 1 "RegistryLogModel" (some .boolean) := C0
  obtain ⟨hx, hb, hml, hown, hts, hr, hlk, hK⟩ := id C0
  subst hH
  have hl : lv_has ls 1 [(0, .ref x)] := hl
  have hm := mS.rf hm0
  refine lv_aload_n hx hb d_M_isFull_0 rfl (lv_at hl 0 rfl) ?_
  refine m_get hx hb hts hown hK hm 12 (by decide) (hts (.fieldLink "RegistryLogModel" 40 "RegistryLogModel" "copied" "[I") (in_4 (List.mem_of_getElem? (i := 221) rfl) rfl)) rfl (v := .ref (ad 12)) rfl d_M_isFull_1 ?_
  refine lv_iconst (v := nI 4) hx hb d_M_isFull_4 (by decide) ?_
  refine m_ld hx hb hK hm 12 rfl 4 rfl (show 4 < 5 from by omega) d_M_isFull_5 ?_
  refine W.eq (g2 := F0 m 6 ls [.int (nI n)]) (by rw [hc]) ?_
  refine lv_bipush (v := nI 120) hx hb d_M_isFull_6 (by decide) ?_
  refine n_ne (tgt := 15) (a := n) (b := 120) hx hb d_M_isFull_8 (by decide) (by omega) (by omega) (fun c8 => ?_) (fun c8 => ?_)
  · skip
    refine lv_iconst (v := nI 0) hx hb d_M_isFull_15 (by decide) ?_
    exact W.zret hx hb hr rfl (fun t9 ht hW => ⟨_, rfl, by rw [decide_eq_false c8]; rfl, ht⟩) (fun q h => by cases h) d_M_isFull_16 hlk
  · skip
    refine lv_iconst (v := nI 1) hx hb d_M_isFull_11 (by decide) ?_
    refine lv_goto (tgt := 16) hx hb d_M_isFull_12 (by decide) ?_
    exact W.zret hx hb hr rfl (fun t9 ht hW => ⟨_, rfl, by rw [decide_eq_true c8]; rfl, ht⟩) (fun q h => by cases h) d_M_isFull_16 hlk
end
section
theorem k_M_row_7 : kV "RegistryLogModel" 196 "RegistryLogModel" y_M_isRow b_M_isRow 2 (some .boolean) 1 := ⟨(in_5 (List.mem_of_getElem? (i := 210) rfl) rfl), (in_5 (List.mem_of_getElem? (i := 212) rfl) rfl), (in_0 (List.mem_of_getElem? (i := 20) rfl) rfl), (in_1 (List.mem_of_getElem? (i := 22) rfl) rfl), (in_5 (List.mem_of_getElem? (i := 213) rfl) rfl), ⟨by decide, by decide, by decide +kernel⟩⟩
theorem ix_ {i : Int32} {n : Nat} (hn : n < 2 ^ 31) (h : decide (0 ≤ i ∧ i < nI n) = true) : ∃ k : Nat, k < n ∧ i = nI k := by
  have h := of_decide_eq_true h
  obtain ⟨j, h1, h2⟩ := nI_of (Int32.not_lt.mpr h.1)
  subst h2
  exact ⟨j, (nI_ltI h1 hn).mp h.2, rfl⟩
def mRow (A : Nat → Nat → Int32) (n : Nat) (i what : Int32) : Int32 := if 0 ≤ i ∧ i < nI n then (if what = 0 then A 3 i.toNatClampNeg else if what = nI 1 then A 4 i.toNatClampNeg else if what = nI 2 then A 5 i.toNatClampNeg else if what = nI 3 then A 6 i.toNatClampNeg else -1) else -1
set_option maxHeartbeats 4000000 in
set_option maxRecDepth 100000 in
/-- row(i, what) -/
theorem c_M_row (l : Launch) (g : gG) (H : Heap) (x : Nat) (ad : Nat → Nat) (F : Nat → Int32) (A : Nat → Nat → Int32) (B : Nat → Nat → Int64) (hm0 : mW g H x ad F A B) (n : Nat) (hc : A 12 4 = nI n) (hn : n ≤ 120) (i what : Int32) : Met l y_M_row (wC y_M_row b_M_row 3 (some .int)) (rmk 1 0 0 21) (pC g H [.ref x, .int i, .int what]) (qM g H x ad (fun v F1 A1 B1 => v = some (.int (mRow A n i what)) ∧ F1 = upd F 0 (nI 0) ∧ A1 = A ∧ B1 = B)) 0 0 (mN x ad) := by
  refine mB (by decide) (Nat.le_of_ble_eq_true rfl) ?_
  intro p e s m below meth c ls C0 hH hZ hnm hl
  have C0 : cF g p s m _ meth c b_M_row 3 "RegistryLogModel" (some .int) := C0
  obtain ⟨hx, hb, hml, hown, hts, hr, hlk, hK⟩ := id C0
  subst hH
  have hl : lv_has ls 3 [(0, .ref x), (1, .int i), (2, .int what)] := hl
  have hm := mS.rf hm0
  refine lv_aload_n hx hb d_M_row_0 rfl (lv_at hl 0 rfl) ?_
  refine lv_iconst (v := nI 0) hx hb d_M_row_1 (by decide) ?_
  refine m_put hx hb hts hown hK hm 0 (by decide) (hts (.fieldLink "RegistryLogModel" 108 "RegistryLogModel" "code" "I") (in_4 (List.mem_of_getElem? (i := 209) rfl) rfl)) rfl rfl (v := nI 0) rfl rfl rfl rfl d_M_row_2 (fun H locs hm => ?_)
  refine lv_aload_n hx hb d_M_row_5 rfl (lv_at hl 0 rfl) ?_
  refine lv_iload_n hx hb d_M_row_6 rfl (lv_at hl 1 rfl) ?_
  refine aP (rV (As := [.int i]) (rest := []) C0 (c_M_isRow l g _ x ad _ _ _ hm.1 n hc i) (m_zK hZ hm) k_M_row_7 rfl rfl ⟨Nat.le_of_ble_eq_true rfl, Nat.le_of_ble_eq_true rfl⟩ (m_recv hK hm) rfl hl.1 rfl (Nat.le_of_ble_eq_true rfl) d_M_row_7 ⟨Nat.zero_le _, Nat.zero_le _⟩) ?_
  intro v hv; subst hv
  refine W.eq (g2 := F0 m 10 ls [.int (bI (decide (0 ≤ i ∧ i < nI n)))]) rfl ?_
  refine z_ne (tgt := 15) (v := decide (0 ≤ i ∧ i < nI n)) hx hb d_M_row_10 (by decide) (fun c10 => ?_) (fun c10 => ?_)
  · skip
    have hin := of_decide_eq_true c10
    obtain ⟨k, hk, ek⟩ := ix_ (by omega) c10
    subst ek
    have hkc : (nI k).toNatClampNeg = k := nI_clamp (by omega)
    refine lv_iload_n hx hb d_M_row_15 rfl (lv_at hl 2 rfl) ?_
    refine lv_if_ne (tgt := 28) hx hb d_M_row_16 (by decide) (fun c16 => ?_) (fun c16 => ?_)
    · skip
      refine lv_iload_n hx hb d_M_row_28 rfl (lv_at hl 2 rfl) ?_
      refine lv_iconst (v := nI 1) hx hb d_M_row_29 (by decide) ?_
      refine lv_icmp_ne (tgt := 42) hx hb d_M_row_30 (by decide) (fun c30 => ?_) (fun c30 => ?_)
      · skip
        refine lv_iload_n hx hb d_M_row_42 rfl (lv_at hl 2 rfl) ?_
        refine lv_iconst (v := nI 2) hx hb d_M_row_43 (by decide) ?_
        refine lv_icmp_ne (tgt := 56) hx hb d_M_row_44 (by decide) (fun c44 => ?_) (fun c44 => ?_)
        · skip
          refine lv_iload_n hx hb d_M_row_56 rfl (lv_at hl 2 rfl) ?_
          refine lv_iconst (v := nI 3) hx hb d_M_row_57 (by decide) ?_
          refine lv_icmp_ne (tgt := 70) hx hb d_M_row_58 (by decide) (fun c58 => ?_) (fun c58 => ?_)
          · skip
            refine lv_iconst (v := (-1)) hx hb d_M_row_70 (by decide) ?_
            exact W.iret hx hb hr (fun t9 ht hW => ⟨_, _, _, _, rfl, by rw [ht]; exact ⟨hm.1, hm.2.1, hm.2.2.1, fun _ h => by cases h⟩, ⟨by rw [mRow, if_pos hin, hkc, if_neg c16, if_neg c30, if_neg c44, if_neg c58], rfl, rfl, rfl⟩⟩) hm.2.2.2 d_M_row_71 hlk
          · skip
            refine lv_aload_n hx hb d_M_row_61 rfl (lv_at hl 0 rfl) ?_
            refine m_get hx hb hts hown hK hm 6 (by decide) (hts (.fieldLink "RegistryLogModel" 22 "RegistryLogModel" "flag" "[I") (in_4 (List.mem_of_getElem? (i := 215) rfl) rfl)) rfl (v := .ref (ad 6)) rfl d_M_row_62 ?_
            refine lv_iload_n hx hb d_M_row_65 rfl (lv_at hl 1 rfl) ?_
            refine m_ld hx hb hK hm 6 rfl k rfl (by show k < 120; omega) d_M_row_66 ?_
            refine lv_goto (tgt := 71) hx hb d_M_row_67 (by decide) ?_
            exact W.iret hx hb hr (fun t9 ht hW => ⟨_, _, _, _, rfl, by rw [ht]; exact ⟨hm.1, hm.2.1, hm.2.2.1, fun _ h => by cases h⟩, ⟨by rw [mRow, if_pos hin, hkc, if_neg c16, if_neg c30, if_neg c44, if_pos c58], rfl, rfl, rfl⟩⟩) hm.2.2.2 d_M_row_71 hlk
        · skip
          refine lv_aload_n hx hb d_M_row_47 rfl (lv_at hl 0 rfl) ?_
          refine m_get hx hb hts hown hK hm 5 (by decide) (hts (.fieldLink "RegistryLogModel" 19 "RegistryLogModel" "first" "[I") (in_4 (List.mem_of_getElem? (i := 214) rfl) rfl)) rfl (v := .ref (ad 5)) rfl d_M_row_48 ?_
          refine lv_iload_n hx hb d_M_row_51 rfl (lv_at hl 1 rfl) ?_
          refine m_ld hx hb hK hm 5 rfl k rfl (by show k < 120; omega) d_M_row_52 ?_
          refine lv_goto (tgt := 71) hx hb d_M_row_53 (by decide) ?_
          exact W.iret hx hb hr (fun t9 ht hW => ⟨_, _, _, _, rfl, by rw [ht]; exact ⟨hm.1, hm.2.1, hm.2.2.1, fun _ h => by cases h⟩, ⟨by rw [mRow, if_pos hin, hkc, if_neg c16, if_neg c30, if_pos c44], rfl, rfl, rfl⟩⟩) hm.2.2.2 d_M_row_71 hlk
      · skip
        refine lv_aload_n hx hb d_M_row_33 rfl (lv_at hl 0 rfl) ?_
        refine m_get hx hb hts hown hK hm 4 (by decide) (hts (.fieldLink "RegistryLogModel" 16 "RegistryLogModel" "person" "[I") (in_4 (List.mem_of_getElem? (i := 213) rfl) rfl)) rfl (v := .ref (ad 4)) rfl d_M_row_34 ?_
        refine lv_iload_n hx hb d_M_row_37 rfl (lv_at hl 1 rfl) ?_
        refine m_ld hx hb hK hm 4 rfl k rfl (by show k < 120; omega) d_M_row_38 ?_
        refine lv_goto (tgt := 71) hx hb d_M_row_39 (by decide) ?_
        exact W.iret hx hb hr (fun t9 ht hW => ⟨_, _, _, _, rfl, by rw [ht]; exact ⟨hm.1, hm.2.1, hm.2.2.1, fun _ h => by cases h⟩, ⟨by rw [mRow, if_pos hin, hkc, if_neg c16, if_pos c30], rfl, rfl, rfl⟩⟩) hm.2.2.2 d_M_row_71 hlk
    · skip
      refine lv_aload_n hx hb d_M_row_19 rfl (lv_at hl 0 rfl) ?_
      refine m_get hx hb hts hown hK hm 3 (by decide) (hts (.fieldLink "RegistryLogModel" 13 "RegistryLogModel" "kind" "[I") (in_4 (List.mem_of_getElem? (i := 212) rfl) rfl)) rfl (v := .ref (ad 3)) rfl d_M_row_20 ?_
      refine lv_iload_n hx hb d_M_row_23 rfl (lv_at hl 1 rfl) ?_
      refine m_ld hx hb hK hm 3 rfl k rfl (by show k < 120; omega) d_M_row_24 ?_
      refine lv_goto (tgt := 71) hx hb d_M_row_25 (by decide) ?_
      exact W.iret hx hb hr (fun t9 ht hW => ⟨_, _, _, _, rfl, by rw [ht]; exact ⟨hm.1, hm.2.1, hm.2.2.1, fun _ h => by cases h⟩, ⟨by rw [mRow, if_pos hin, hkc, if_pos c16], rfl, rfl, rfl⟩⟩) hm.2.2.2 d_M_row_71 hlk
  · skip
    refine lv_iconst (v := (-1)) hx hb d_M_row_13 (by decide) ?_
    exact W.iret hx hb hr (fun t9 ht hW => ⟨_, _, _, _, rfl, by rw [ht]; exact ⟨hm.1, hm.2.1, hm.2.2.1, fun _ h => by cases h⟩, ⟨by rw [mRow, if_neg (of_decide_eq_false c10)], rfl, rfl, rfl⟩⟩) hm.2.2.2 d_M_row_14 hlk
def mGet (f : Nat → Int64) (n : Nat) (i : Int32) : Int64 := if 0 ≤ i ∧ i < nI n then f i.toNatClampNeg else 0
set_option maxHeartbeats 4000000 in
set_option maxRecDepth 100000 in
/-- proof(k) -/
theorem c_M_proof (l : Launch) (g : gG) (H : Heap) (x : Nat) (ad : Nat → Nat) (F : Nat → Int32) (A : Nat → Nat → Int32) (B : Nat → Nat → Int64) (hm0 : mW g H x ad F A B) (n : Nat) (hn : F 15 = nI n) (hn16 : n ≤ 16) (i : Int32) : Met l y_M_proof (wC y_M_proof b_M_proof 2 (some .long)) (rmk 0 0 0 0) (pC g H [.ref x, .int i]) (qM g H x ad (fun v F1 A1 B1 => v = some (.long (mGet (B 13) n i)) ∧ F1 = upd F 0 (nI 0) ∧ A1 = A ∧ B1 = B)) 0 0 (mN x ad) := by
  refine mB (by decide) (Nat.le_of_ble_eq_true rfl) ?_
  intro p e s m below meth c ls C0 hH hZ hnm hl
  have C0 : cF g p s m _ meth c b_M_proof 2 "RegistryLogModel" (some .long) := C0
  obtain ⟨hx, hb, hml, hown, hts, hr, hlk, hK⟩ := id C0
  subst hH
  have hl : lv_has ls 2 [(0, .ref x), (1, .int i)] := hl
  have hm := mS.rf hm0
  refine lv_aload_n hx hb d_M_proof_0 rfl (lv_at hl 0 rfl) ?_
  refine lv_iconst (v := nI 0) hx hb d_M_proof_1 (by decide) ?_
  refine m_put hx hb hts hown hK hm 0 (by decide) (hts (.fieldLink "RegistryLogModel" 108 "RegistryLogModel" "code" "I") (in_4 (List.mem_of_getElem? (i := 209) rfl) rfl)) rfl rfl (v := nI 0) rfl rfl rfl rfl d_M_proof_2 (fun H locs hm => ?_)
  refine lv_iload_n hx hb d_M_proof_5 rfl (lv_at hl 1 rfl) ?_
  refine lv_if_lt (tgt := 17) hx hb d_M_proof_6 (by decide) (fun c6 => ?_) (fun c6 => ?_)
  · skip
    refine lv_lconst (v := 0) hx hb d_M_proof_17 (by decide) ?_
    refine lv_goto (tgt := 27) hx hb d_M_proof_18 (by decide) ?_
    exact W.lret hx hb hr (fun t9 ht hW => ⟨_, _, _, _, rfl, by rw [ht]; exact ⟨hm.1, hm.2.1, hm.2.2.1, fun _ h => by cases h⟩, ⟨by rw [mGet, if_neg (fun z => absurd z.1 (Int32.not_le.mpr c6))], rfl, rfl, rfl⟩⟩) hm.2.2.2 d_M_proof_27 hlk
  · skip
    refine lv_iload_n hx hb d_M_proof_9 rfl (lv_at hl 1 rfl) ?_
    refine lv_aload_n hx hb d_M_proof_10 rfl (lv_at hl 0 rfl) ?_
    refine m_get hx hb hts hown hK hm 15 (by decide) (hts (.fieldLink "RegistryLogModel" 238 "RegistryLogModel" "proofSize" "I") (in_4 (List.mem_of_getElem? (i := 224) rfl) rfl)) rfl (v := .int (nI n)) (congrArg (fun z => some (Value.int z)) hn) d_M_proof_11 ?_
    refine lv_icmp_lt (tgt := 21) hx hb d_M_proof_14 (by decide) (fun c14 => ?_) (fun c14 => ?_)
    · skip
      obtain ⟨k, hk1, ek⟩ := nI_of c6
      have hk : k < n := (nI_ltI hk1 (by omega)).mp (by rw [← ek]; exact c14)
      have hkc : i.toNatClampNeg = k := by rw [ek]; exact nI_clamp hk1
      refine lv_aload_n hx hb d_M_proof_21 rfl (lv_at hl 0 rfl) ?_
      refine m_get hx hb hts hown hK hm 13 (by decide) (hts (.fieldLink "RegistryLogModel" 43 "RegistryLogModel" "proof" "[J") (in_4 (List.mem_of_getElem? (i := 222) rfl) rfl)) rfl (v := .ref (ad 13)) rfl d_M_proof_22 ?_
      refine lv_iload_n hx hb d_M_proof_25 rfl (lv_at hl 1 rfl) ?_
      refine m_ldl hx hb hK hm 13 rfl k ek (by show k < 16; omega) d_M_proof_26 ?_
      exact W.lret hx hb hr (fun t9 ht hW => ⟨_, _, _, _, rfl, by rw [ht]; exact ⟨hm.1, hm.2.1, hm.2.2.1, fun _ h => by cases h⟩, ⟨by rw [mGet, if_pos ⟨Int32.not_lt.mp c6, c14⟩, hkc], rfl, rfl, rfl⟩⟩) hm.2.2.2 d_M_proof_27 hlk
    · skip
      refine lv_lconst (v := 0) hx hb d_M_proof_17 (by decide) ?_
      refine lv_goto (tgt := 27) hx hb d_M_proof_18 (by decide) ?_
      exact W.lret hx hb hr (fun t9 ht hW => ⟨_, _, _, _, rfl, by rw [ht]; exact ⟨hm.1, hm.2.1, hm.2.2.1, fun _ h => by cases h⟩, ⟨by rw [mGet, if_neg (fun z => c14 z.2)], rfl, rfl, rfl⟩⟩) hm.2.2.2 d_M_proof_27 hlk
set_option maxHeartbeats 4000000 in
set_option maxRecDepth 100000 in
/-- take(x) -/
theorem c_M_take (l : Launch) (g : gG) (H : Heap) (x : Nat) (ad : Nat → Nat) (F : Nat → Int32) (A : Nat → Nat → Int32) (B : Nat → Nat → Int64) (hm0 : mW g H x ad F A B) (n : Nat) (hn : F 16 = nI n) (hn16 : n ≤ 16) (y : Int64) : Met l y_M_take (wC y_M_take b_M_take 3 (some .boolean)) (rmk 0 0 0 0) (pC g H [.ref x, .long y]) (qM g H x ad (fun v F1 A1 B1 => if n < 16 then (v = some (.int 1) ∧ F1 = upd (upd F 0 (nI 0)) 16 (nI (n + 1)) ∧ A1 = A ∧ B1 = updB B 14 (vp_updL (B 14) n y)) else (v = some (.int 0) ∧ F1 = upd F 0 (nI 0) ∧ A1 = A ∧ B1 = B))) 0 0 (mN x ad) := by
  refine mB (by decide) (Nat.le_of_ble_eq_true rfl) ?_
  intro p e s m below meth c ls C0 hH hZ hnm hl
  have C0 : cF g p s m _ meth c b_M_take 3 "RegistryLogModel" (some .boolean) := C0
  obtain ⟨hx, hb, hml, hown, hts, hr, hlk, hK⟩ := id C0
  subst hH
  have hl : lv_has ls 3 [(0, .ref x), (1, .long y)] := hl
  have hm := mS.rf hm0
  refine lv_aload_n hx hb d_M_take_0 rfl (lv_at hl 0 rfl) ?_
  refine lv_iconst (v := nI 0) hx hb d_M_take_1 (by decide) ?_
  refine m_put hx hb hts hown hK hm 0 (by decide) (hts (.fieldLink "RegistryLogModel" 108 "RegistryLogModel" "code" "I") (in_4 (List.mem_of_getElem? (i := 209) rfl) rfl)) rfl rfl (v := nI 0) rfl rfl rfl rfl d_M_take_2 (fun H locs hm => ?_)
  refine lv_aload_n hx hb d_M_take_5 rfl (lv_at hl 0 rfl) ?_
  refine m_get hx hb hts hown hK hm 16 (by decide) (hts (.fieldLink "RegistryLogModel" 249 "RegistryLogModel" "handSize" "I") (in_4 (List.mem_of_getElem? (i := 225) rfl) rfl)) rfl (v := .int (nI n)) (congrArg (fun z => some (Value.int z)) hn) d_M_take_6 ?_
  refine lv_bipush (v := nI 16) hx hb d_M_take_9 (by decide) ?_
  refine n_ne (tgt := 16) (a := n) (b := 16) hx hb d_M_take_11 (by decide) (by omega) (by omega) (fun c11 => ?_) (fun c11 => ?_)
  · skip
    refine lv_aload_n hx hb d_M_take_16 rfl (lv_at hl 0 rfl) ?_
    refine m_get hx hb hts hown hK hm 14 (by decide) (hts (.fieldLink "RegistryLogModel" 47 "RegistryLogModel" "hand" "[J") (in_4 (List.mem_of_getElem? (i := 223) rfl) rfl)) rfl (v := .ref (ad 14)) rfl d_M_take_17 ?_
    refine lv_aload_n hx hb d_M_take_20 rfl (lv_at hl 0 rfl) ?_
    refine m_get hx hb hts hown hK hm 16 (by decide) (hts (.fieldLink "RegistryLogModel" 249 "RegistryLogModel" "handSize" "I") (in_4 (List.mem_of_getElem? (i := 225) rfl) rfl)) rfl (v := .int (nI n)) (congrArg (fun z => some (Value.int z)) hn) d_M_take_21 ?_
    refine lv_lload_n hx hb d_M_take_24 rfl (lv_at hl 1 rfl) ?_
    refine m_stl hx hb hK hm 14 rfl n rfl (show n < 16 from by omega) d_M_take_25 (fun H locs hm => ?_)
    have hm : mS g s.heap H x ad (upd F 0 (nI 0)) A (updB B 14 (vp_updL (B 14) n y)) locs := hm
    refine lv_aload_n hx hb d_M_take_26 rfl (lv_at hl 0 rfl) ?_
    refine lv_dup hx hb d_M_take_27 rfl ?_
    refine m_get hx hb hts hown hK hm 16 (by decide) (hts (.fieldLink "RegistryLogModel" 249 "RegistryLogModel" "handSize" "I") (in_4 (List.mem_of_getElem? (i := 225) rfl) rfl)) rfl (v := .int (nI n)) (congrArg (fun z => some (Value.int z)) hn) d_M_take_28 ?_
    refine lv_iconst (v := nI 1) hx hb d_M_take_31 (by decide) ?_
    refine n_iadd hx hb d_M_take_32 ?_
    refine m_put hx hb hts hown hK hm 16 (by decide) (hts (.fieldLink "RegistryLogModel" 249 "RegistryLogModel" "handSize" "I") (in_4 (List.mem_of_getElem? (i := 225) rfl) rfl)) rfl rfl (v := nI (n + 1)) rfl rfl rfl rfl d_M_take_33 (fun H locs hm => ?_)
    refine lv_iconst (v := nI 1) hx hb d_M_take_36 (by decide) ?_
    exact W.zret hx hb hr rfl (fun t9 ht hW => ⟨_, _, _, _, rfl, by rw [ht]; exact ⟨hm.1, hm.2.1, hm.2.2.1, fun _ h => by cases h⟩, by (try dsimp only); rw [if_pos (by omega)]; exact ⟨rfl, rfl, rfl, rfl⟩⟩) hm.2.2.2 d_M_take_37 hlk
  · skip
    refine lv_iconst (v := nI 0) hx hb d_M_take_14 (by decide) ?_
    exact W.zret hx hb hr rfl (fun t9 ht hW => ⟨_, _, _, _, rfl, by rw [ht]; exact ⟨hm.1, hm.2.1, hm.2.2.1, fun _ h => by cases h⟩, by (try dsimp only); rw [if_neg (by omega)]; exact ⟨rfl, rfl, rfl, rfl⟩⟩) hm.2.2.2 d_M_take_15 hlk
set_option maxHeartbeats 4000000 in
set_option maxRecDepth 100000 in
/-- prove(h) -/
theorem c_M_prove (l : Launch) (g : gG) (H : Heap) (x : Nat) (ad : Nat → Nat) (F : Nat → Int32) (A : Nat → Nat → Int32) (B : Nat → Nat → Int64) (hm0 : mW g H x ad F A B) (n : Nat) (hn : F 15 = nI n) (hn16 : n < 16) (y : Int64) : Met l y_M_prove (wC y_M_prove b_M_prove 3 none) (rmk 0 0 0 0) (pC g H [.ref x, .long y]) (qM g H x ad (fun v F1 A1 B1 => v = none ∧ F1 = upd F 15 (nI (n + 1)) ∧ A1 = A ∧ B1 = updB B 13 (vp_updL (B 13) n y))) 0 0 (mN x ad) := by
  refine mB (by decide) (Nat.le_of_ble_eq_true rfl) ?_
  intro p e s m below meth c ls C0 hH hZ hnm hl
  have C0 : cF g p s m _ meth c b_M_prove 3 "RegistryLogModel" none := C0
  obtain ⟨hx, hb, hml, hown, hts, hr, hlk, hK⟩ := id C0
  subst hH
  have hl : lv_has ls 3 [(0, .ref x), (1, .long y)] := hl
  have hm := mS.rf hm0
  refine lv_aload_n hx hb d_M_prove_0 rfl (lv_at hl 0 rfl) ?_
  refine m_get hx hb hts hown hK hm 13 (by decide) (hts (.fieldLink "RegistryLogModel" 43 "RegistryLogModel" "proof" "[J") (in_4 (List.mem_of_getElem? (i := 222) rfl) rfl)) rfl (v := .ref (ad 13)) rfl d_M_prove_1 ?_
  refine lv_aload_n hx hb d_M_prove_4 rfl (lv_at hl 0 rfl) ?_
  refine m_get hx hb hts hown hK hm 15 (by decide) (hts (.fieldLink "RegistryLogModel" 238 "RegistryLogModel" "proofSize" "I") (in_4 (List.mem_of_getElem? (i := 224) rfl) rfl)) rfl (v := .int (nI n)) (congrArg (fun z => some (Value.int z)) hn) d_M_prove_5 ?_
  refine lv_lload_n hx hb d_M_prove_8 rfl (lv_at hl 1 rfl) ?_
  refine m_stl hx hb hK hm 13 rfl n rfl (show n < 16 from by omega) d_M_prove_9 (fun H locs hm => ?_)
  have hm : mS g s.heap H x ad F A (updB B 13 (vp_updL (B 13) n y)) locs := hm
  refine lv_aload_n hx hb d_M_prove_10 rfl (lv_at hl 0 rfl) ?_
  refine lv_dup hx hb d_M_prove_11 rfl ?_
  refine m_get hx hb hts hown hK hm 15 (by decide) (hts (.fieldLink "RegistryLogModel" 238 "RegistryLogModel" "proofSize" "I") (in_4 (List.mem_of_getElem? (i := 224) rfl) rfl)) rfl (v := .int (nI n)) (congrArg (fun z => some (Value.int z)) hn) d_M_prove_12 ?_
  refine lv_iconst (v := nI 1) hx hb d_M_prove_15 (by decide) ?_
  refine n_iadd hx hb d_M_prove_16 ?_
  refine m_put hx hb hts hown hK hm 15 (by decide) (hts (.fieldLink "RegistryLogModel" 238 "RegistryLogModel" "proofSize" "I") (in_4 (List.mem_of_getElem? (i := 224) rfl) rfl)) rfl rfl (v := nI (n + 1)) rfl rfl rfl rfl d_M_prove_17 (fun H locs hm => ?_)
  exact W.vret hx hb hr (fun t9 ht hW => ⟨_, _, _, _, rfl, by rw [ht]; exact ⟨hm.1, hm.2.1, hm.2.2.1, fun _ h => by cases h⟩, ⟨rfl, rfl, rfl, rfl⟩⟩) hm.2.2.2 d_M_prove_20 hlk
theorem k_M_spoil_6 : kS "RegistryLogModel" 252 y_M_isMirror b_M_isMirror 1 (some .boolean) 1 := ⟨(in_6 (List.mem_of_getElem? (i := 37) rfl) rfl), (in_6 (List.mem_of_getElem? (i := 38) rfl) rfl), (in_1 (List.mem_of_getElem? (i := 22) rfl) rfl), (in_6 (List.mem_of_getElem? (i := 39) rfl) rfl), ⟨by decide, by decide, by decide +kernel⟩⟩
def spS (A : Nat → Nat → Int32) (q i : Int32) : Bool := decide (0 ≤ q ∧ q < 4 ∧ 0 ≤ i ∧ i < A 12 q.toNatClampNeg ∧ A 3 i.toNatClampNeg = 0)
set_option maxHeartbeats 4000000 in
set_option maxRecDepth 100000 in
/-- spoil(m, i, sum) -/
theorem c_M_spoil (l : Launch) (g : gG) (H : Heap) (x : Nat) (ad : Nat → Nat) (F : Nat → Int32) (A : Nat → Nat → Int32) (B : Nat → Nat → Int64) (hm0 : mW g H x ad F A B) (hc : ∀ k, k < 4 → ∃ n, A 12 k = nI n ∧ n ≤ 120) (q i v0 : Int32) : Met l y_M_spoil (wC y_M_spoil b_M_spoil 4 (some .boolean)) (rmk 1 0 0 20) (pC g H [.ref x, .int q, .int i, .int v0]) (qM g H x ad (fun v F1 A1 B1 => if spS A q i = true then (v = some (.int 1) ∧ F1 = upd F 0 (nI 0) ∧ A1 = updA A 11 (upd (A 11) (120 * q.toNatClampNeg + i.toNatClampNeg) v0) ∧ B1 = B) else (v = some (.int 0) ∧ F1 = upd F 0 (nI 0) ∧ A1 = A ∧ B1 = B))) 0 0 (mN x ad) := by
  refine mB (by decide) (Nat.le_of_ble_eq_true rfl) ?_
  intro p e s m below meth c ls C0 hH hZ hnm hl
  have C0 : cF g p s m _ meth c b_M_spoil 4 "RegistryLogModel" (some .boolean) := C0
  obtain ⟨hx, hb, hml, hown, hts, hr, hlk, hK⟩ := id C0
  subst hH
  have hl : lv_has ls 4 [(0, .ref x), (1, .int q), (2, .int i), (3, .int v0)] := hl
  have hm := mS.rf hm0
  refine lv_aload_n hx hb d_M_spoil_0 rfl (lv_at hl 0 rfl) ?_
  refine lv_iconst (v := nI 0) hx hb d_M_spoil_1 (by decide) ?_
  refine m_put hx hb hts hown hK hm 0 (by decide) (hts (.fieldLink "RegistryLogModel" 108 "RegistryLogModel" "code" "I") (in_4 (List.mem_of_getElem? (i := 209) rfl) rfl)) rfl rfl (v := nI 0) rfl rfl rfl rfl d_M_spoil_2 (fun H locs hm => ?_)
  refine lv_iload_n hx hb d_M_spoil_5 rfl (lv_at hl 1 rfl) ?_
  refine aP (rS (As := [.int q]) (rest := []) C0 (c_M_isMirror l g _ q) (m_zK hZ hm) k_M_spoil_6 rfl rfl ⟨Nat.le_of_ble_eq_true rfl, Nat.le_of_ble_eq_true rfl⟩ rfl hl.1 rfl (Nat.le_of_ble_eq_true rfl) d_M_spoil_6 ⟨Nat.zero_le _, Nat.zero_le _⟩) ?_
  intro v hv; subst hv
  refine W.eq (g2 := F0 m 9 ls [.int (bI (decide (0 ≤ q ∧ q < 4)))]) rfl ?_
  refine z_eq (tgt := 35) (v := decide (0 ≤ q ∧ q < 4)) hx hb d_M_spoil_9 (by decide) (fun c9 => ?_) (fun c9 => ?_)
  · skip
    refine lv_iconst (v := nI 0) hx hb d_M_spoil_35 (by decide) ?_
    exact W.zret hx hb hr rfl (fun t9 ht hW => ⟨_, _, _, _, rfl, by rw [ht]; exact ⟨hm.1, hm.2.1, hm.2.2.1, fun _ h => by cases h⟩, by (try dsimp only); rw [if_neg (by rw [spS, decide_eq_false (fun z => absurd (⟨z.1, z.2.1⟩ : 0 ≤ q ∧ q < 4) (of_decide_eq_false c9))]; decide)]; exact ⟨rfl, rfl, rfl, rfl⟩⟩) hm.2.2.2 d_M_spoil_36 hlk
  · skip
    have hqq := of_decide_eq_true c9
    obtain ⟨q1, hq1, eq1⟩ : ∃ k : Nat, k < 4 ∧ q = nI k := ix_ (n := 4) (by decide) (decide_eq_true ⟨hqq.1, hqq.2⟩)
    have hqc : q.toNatClampNeg = q1 := by rw [eq1]; exact nI_clamp (by omega)
    obtain ⟨n1, hn1, hn2⟩ := hc q1 hq1
    refine lv_iload_n hx hb d_M_spoil_12 rfl (lv_at hl 2 rfl) ?_
    refine lv_if_lt (tgt := 35) hx hb d_M_spoil_13 (by decide) (fun c13 => ?_) (fun c13 => ?_)
    · skip
      refine lv_iconst (v := nI 0) hx hb d_M_spoil_35 (by decide) ?_
      exact W.zret hx hb hr rfl (fun t9 ht hW => ⟨_, _, _, _, rfl, by rw [ht]; exact ⟨hm.1, hm.2.1, hm.2.2.1, fun _ h => by cases h⟩, by (try dsimp only); rw [if_neg (by rw [spS, decide_eq_false (fun z => absurd z.2.2.1 (Int32.not_le.mpr c13))]; decide)]; exact ⟨rfl, rfl, rfl, rfl⟩⟩) hm.2.2.2 d_M_spoil_36 hlk
    · skip
      refine lv_iload_n hx hb d_M_spoil_16 rfl (lv_at hl 2 rfl) ?_
      refine lv_aload_n hx hb d_M_spoil_17 rfl (lv_at hl 0 rfl) ?_
      refine m_get hx hb hts hown hK hm 12 (by decide) (hts (.fieldLink "RegistryLogModel" 40 "RegistryLogModel" "copied" "[I") (in_4 (List.mem_of_getElem? (i := 221) rfl) rfl)) rfl (v := .ref (ad 12)) rfl d_M_spoil_18 ?_
      refine lv_iload_n hx hb d_M_spoil_21 rfl (lv_at hl 1 rfl) ?_
      refine m_ld hx hb hK hm 12 rfl q1 eq1 (by show q1 < 5; omega) d_M_spoil_22 ?_
      refine lv_icmp_ge (tgt := 35) hx hb d_M_spoil_23 (by decide) (fun c23 => ?_) (fun c23 => ?_)
      · skip
        refine lv_iconst (v := nI 0) hx hb d_M_spoil_35 (by decide) ?_
        exact W.zret hx hb hr rfl (fun t9 ht hW => ⟨_, _, _, _, rfl, by rw [ht]; exact ⟨hm.1, hm.2.1, hm.2.2.1, fun _ h => by cases h⟩, by (try dsimp only); rw [if_neg (by rw [spS, decide_eq_false (fun z => absurd z.2.2.2.1 (Int32.not_lt.mpr (by rw [hqc]; exact c23)))]; decide)]; exact ⟨rfl, rfl, rfl, rfl⟩⟩) hm.2.2.2 d_M_spoil_36 hlk
      · skip
        obtain ⟨k, hk1, ek⟩ := nI_of c13
        have hk : k < n1 := (nI_ltI hk1 (by omega)).mp (by rw [← ek, ← hn1]; exact Int32.not_le.mp c23)
        have hkc : i.toNatClampNeg = k := by rw [ek]; exact nI_clamp hk1
        refine lv_aload_n hx hb d_M_spoil_26 rfl (lv_at hl 0 rfl) ?_
        refine m_get hx hb hts hown hK hm 3 (by decide) (hts (.fieldLink "RegistryLogModel" 13 "RegistryLogModel" "kind" "[I") (in_4 (List.mem_of_getElem? (i := 212) rfl) rfl)) rfl (v := .ref (ad 3)) rfl d_M_spoil_27 ?_
        refine lv_iload_n hx hb d_M_spoil_30 rfl (lv_at hl 2 rfl) ?_
        refine m_ld hx hb hK hm 3 rfl k ek (by show k < 120; omega) d_M_spoil_31 ?_
        refine lv_if_eq (tgt := 37) hx hb d_M_spoil_32 (by decide) (fun c32 => ?_) (fun c32 => ?_)
        · skip
          refine lv_aload_n hx hb d_M_spoil_37 rfl (lv_at hl 0 rfl) ?_
          refine m_get hx hb hts hown hK hm 11 (by decide) (hts (.fieldLink "RegistryLogModel" 37 "RegistryLogModel" "sums" "[I") (in_4 (List.mem_of_getElem? (i := 220) rfl) rfl)) rfl (v := .ref (ad 11)) rfl d_M_spoil_38 ?_
          refine lv_bipush (v := nI 120) hx hb d_M_spoil_41 (by decide) ?_
          refine lv_iload_n hx hb d_M_spoil_43 rfl (lv_at hl 1 rfl) ?_
          refine lv_imul hx hb d_M_spoil_44 ?_
          refine lv_iload_n hx hb d_M_spoil_45 rfl (lv_at hl 2 rfl) ?_
          refine lv_iadd hx hb d_M_spoil_46 ?_
          refine lv_iload_n hx hb d_M_spoil_47 rfl (lv_at hl 3 rfl) ?_
          refine m_st hx hb hK hm 11 rfl (120 * q1 + k) (by rw [eq1, ek, pk_mul, nI_add]) (show 120 * q1 + k < 600 from by omega) d_M_spoil_48 (fun H locs hm => ?_)
          have hm : mS g s.heap H x ad (upd F 0 (nI 0)) (updA A 11 (upd (A 11) (120 * q1 + k) (v0))) B locs := hm
          refine lv_iconst (v := nI 1) hx hb d_M_spoil_49 (by decide) ?_
          exact W.zret hx hb hr rfl (fun t9 ht hW => ⟨_, _, _, _, rfl, by rw [ht]; exact ⟨hm.1, hm.2.1, hm.2.2.1, fun _ h => by cases h⟩, by (try dsimp only); rw [if_pos (by rw [spS, decide_eq_true ⟨hqq.1, hqq.2, Int32.not_lt.mp c13, by rw [hqc]; exact Int32.not_le.mp c23, by rw [hkc]; exact c32⟩]), hqc, hkc]; exact ⟨rfl, rfl, rfl, rfl⟩⟩) hm.2.2.2 d_M_spoil_50 hlk
        · skip
          refine lv_iconst (v := nI 0) hx hb d_M_spoil_35 (by decide) ?_
          exact W.zret hx hb hr rfl (fun t9 ht hW => ⟨_, _, _, _, rfl, by rw [ht]; exact ⟨hm.1, hm.2.1, hm.2.2.1, fun _ h => by cases h⟩, by (try dsimp only); rw [if_neg (by rw [spS, decide_eq_false (fun z => c32 (by rw [hkc] at z; exact z.2.2.2.2))]; decide)]; exact ⟨rfl, rfl, rfl, rfl⟩⟩) hm.2.2.2 d_M_spoil_36 hlk
def rbit (r : Int32) (w : Nat) : Bool := decide ((r >>> (nI w &&& 31)) &&& 1 = 1)
set_option maxHeartbeats 4000000 in
set_option maxRecDepth 100000 in
/-- isKnown(NONE) -/
theorem c_M_isKnown0 (l : Launch) (g : gG) (H : Heap) (x : Nat) (ad : Nat → Nat) (F : Nat → Int32) (A : Nat → Nat → Int32) (B : Nat → Nat → Int64) (hm0 : mW g H x ad F A B)  : Met l y_M_isKnown (wC y_M_isKnown b_M_isKnown 2 (some .boolean)) (rmk 0 0 0 0) (pC g H [.ref x, .int ((-1))]) (qP H (fun v => v = some (.int (bI false)))) 0 0 no_ := by
  refine mB (by decide) (Nat.le_of_ble_eq_true rfl) ?_
  intro p e s m below meth c ls C0 hH hZ hnm hl
  have C0 : cF g p s m _ meth c b_M_isKnown 2 "RegistryLogModel" (some .boolean) := C0
  obtain ⟨hx, hb, hml, hown, hts, hr, hlk, hK⟩ := id C0
  subst hH
  have hl : lv_has ls 2 [(0, .ref x), (1, .int ((-1)))] := hl
  have hm := mS.rf hm0
  refine lv_iload_n hx hb d_M_isKnown_0 rfl (lv_at hl 1 rfl) ?_
  refine lv_iconst (v := (-1)) hx hb d_M_isKnown_1 (by decide) ?_
  refine lv_icmp_eq (tgt := 19) hx hb d_M_isKnown_2 (by decide) (fun c2 => ?_) (fun c2 => ?_)
  · skip
    refine lv_iconst (v := nI 0) hx hb d_M_isKnown_19 (by decide) ?_
    exact W.zret hx hb hr rfl (fun t9 ht hW => ⟨_, rfl, rfl, ht⟩) (fun q h => by cases h) d_M_isKnown_20 hlk
  · skip
    first | exact absurd c2 (by decide) | exact absurd (by decide) c2
theorem nI_m1 {k : Nat} (h : k < 2 ^ 31) : ¬ nI k = -1 := fun z => by
  have := congrArg Int32.toInt z
  rw [nI_toInt h] at this
  have e : (-1 : Int32).toInt = -1 := by decide
  omega
set_option maxHeartbeats 4000000 in
set_option maxRecDepth 100000 in
/-- isKnown(k) -/
theorem c_M_isKnown (l : Launch) (g : gG) (H : Heap) (x : Nat) (ad : Nat → Nat) (F : Nat → Int32) (A : Nat → Nat → Int32) (B : Nat → Nat → Int64) (hm0 : mW g H x ad F A B) (k : Nat) (hk : k < 240) : Met l y_M_isKnown (wC y_M_isKnown b_M_isKnown 2 (some .boolean)) (rmk 0 0 0 0) (pC g H [.ref x, .int (nI k)]) (qP H (fun v => v = some (.int (bI (decide (A 19 k = nI 1)))))) 0 0 no_ := by
  refine mB (by decide) (Nat.le_of_ble_eq_true rfl) ?_
  intro p e s m below meth c ls C0 hH hZ hnm hl
  have C0 : cF g p s m _ meth c b_M_isKnown 2 "RegistryLogModel" (some .boolean) := C0
  obtain ⟨hx, hb, hml, hown, hts, hr, hlk, hK⟩ := id C0
  subst hH
  have hl : lv_has ls 2 [(0, .ref x), (1, .int (nI k))] := hl
  have hm := mS.rf hm0
  refine lv_iload_n hx hb d_M_isKnown_0 rfl (lv_at hl 1 rfl) ?_
  refine lv_iconst (v := (-1)) hx hb d_M_isKnown_1 (by decide) ?_
  refine lv_icmp_eq (tgt := 19) hx hb d_M_isKnown_2 (by decide) (fun c2 => ?_) (fun c2 => ?_)
  · skip
    exact absurd c2 (nI_m1 (by omega))
  · skip
    refine lv_aload_n hx hb d_M_isKnown_5 rfl (lv_at hl 0 rfl) ?_
    refine m_get hx hb hts hown hK hm 19 (by decide) (hts (.fieldLink "RegistryLogModel" 56 "RegistryLogModel" "nameState" "[I") (in_4 (List.mem_of_getElem? (i := 228) rfl) rfl)) rfl (v := .ref (ad 19)) rfl d_M_isKnown_6 ?_
    refine lv_iload_n hx hb d_M_isKnown_9 rfl (lv_at hl 1 rfl) ?_
    refine m_ld hx hb hK hm 19 rfl k rfl (show k < 240 from by omega) d_M_isKnown_10 ?_
    refine lv_iconst (v := nI 1) hx hb d_M_isKnown_11 (by decide) ?_
    refine lv_icmp_ne (tgt := 19) hx hb d_M_isKnown_12 (by decide) (fun c12 => ?_) (fun c12 => ?_)
    · skip
      refine lv_iconst (v := nI 0) hx hb d_M_isKnown_19 (by decide) ?_
      exact W.zret hx hb hr rfl (fun t9 ht hW => ⟨_, rfl, by rw [decide_eq_false c12]; rfl, ht⟩) (fun q h => by cases h) d_M_isKnown_20 hlk
    · skip
      refine lv_iconst (v := nI 1) hx hb d_M_isKnown_15 (by decide) ?_
      refine lv_goto (tgt := 20) hx hb d_M_isKnown_16 (by decide) ?_
      exact W.zret hx hb hr rfl (fun t9 ht hW => ⟨_, rfl, by rw [decide_eq_true c12]; rfl, ht⟩) (fun q h => by cases h) d_M_isKnown_20 hlk
theorem k_M_isFounder_2 : kV "RegistryLogModel" 154 "RegistryLogModel" y_M_isKnown b_M_isKnown 2 (some .boolean) 1 := ⟨(in_5 (List.mem_of_getElem? (i := 170) rfl) rfl), (in_5 (List.mem_of_getElem? (i := 172) rfl) rfl), (in_0 (List.mem_of_getElem? (i := 15) rfl) rfl), (in_1 (List.mem_of_getElem? (i := 22) rfl) rfl), (in_5 (List.mem_of_getElem? (i := 173) rfl) rfl), ⟨by decide, by decide, by decide +kernel⟩⟩
set_option maxHeartbeats 4000000 in
set_option maxRecDepth 100000 in
/-- isFounder(k, who) -/
theorem c_M_isFounder (l : Launch) (g : gG) (H : Heap) (x : Nat) (ad : Nat → Nat) (F : Nat → Int32) (A : Nat → Nat → Int32) (B : Nat → Nat → Int64) (hm0 : mW g H x ad F A B) (k ow : Nat) (hk : k < 240) (how : A 20 k = nI ow) (how2 : ow < 120) (w0 : Int32) : Met l y_M_isFounder (wC y_M_isFounder b_M_isFounder 3 (some .boolean)) (rmk 1 0 0 21) (pC g H [.ref x, .int (nI k), .int w0]) (qP H (fun v => v = some (.int (bI (decide (A 19 k = nI 1 ∧ A 21 ow = w0)))))) 0 0 no_ := by
  refine mB (by decide) (Nat.le_of_ble_eq_true rfl) ?_
  intro p e s m below meth c ls C0 hH hZ hnm hl
  have C0 : cF g p s m _ meth c b_M_isFounder 3 "RegistryLogModel" (some .boolean) := C0
  obtain ⟨hx, hb, hml, hown, hts, hr, hlk, hK⟩ := id C0
  subst hH
  have hl : lv_has ls 3 [(0, .ref x), (1, .int (nI k)), (2, .int w0)] := hl
  have hm := mS.rf hm0
  refine lv_aload_n hx hb d_M_isFounder_0 rfl (lv_at hl 0 rfl) ?_
  refine lv_iload_n hx hb d_M_isFounder_1 rfl (lv_at hl 1 rfl) ?_
  refine aP (rV (As := [.int (nI k)]) (rest := []) C0 (c_M_isKnown l g _ x ad _ _ _ hm.1 k hk) (m_zK hZ hm) k_M_isFounder_2 rfl rfl ⟨Nat.le_of_ble_eq_true rfl, Nat.le_of_ble_eq_true rfl⟩ (m_recv hK hm) rfl hl.1 rfl (Nat.le_of_ble_eq_true rfl) d_M_isFounder_2 ⟨Nat.zero_le _, Nat.zero_le _⟩) ?_
  intro v hv; subst hv
  refine W.eq (g2 := F0 m 5 ls [.int (bI (decide (A 19 k = nI 1)))]) rfl ?_
  refine z_eq (tgt := 27) (v := decide (A 19 k = nI 1)) hx hb d_M_isFounder_5 (by decide) (fun c5 => ?_) (fun c5 => ?_)
  · skip
    refine lv_iconst (v := nI 0) hx hb d_M_isFounder_27 (by decide) ?_
    exact W.zret hx hb hr rfl (fun t9 ht hW => ⟨_, rfl, by rw [decide_eq_false (fun z => absurd z.1 (of_decide_eq_false c5))]; rfl, ht⟩) (fun q h => by cases h) d_M_isFounder_28 hlk
  · skip
    refine lv_aload_n hx hb d_M_isFounder_8 rfl (lv_at hl 0 rfl) ?_
    refine m_get hx hb hts hown hK hm 21 (by decide) (hts (.fieldLink "RegistryLogModel" 62 "RegistryLogModel" "founders" "[I") (in_4 (List.mem_of_getElem? (i := 230) rfl) rfl)) rfl (v := .ref (ad 21)) rfl d_M_isFounder_9 ?_
    refine lv_aload_n hx hb d_M_isFounder_12 rfl (lv_at hl 0 rfl) ?_
    refine m_get hx hb hts hown hK hm 20 (by decide) (hts (.fieldLink "RegistryLogModel" 59 "RegistryLogModel" "nameOf" "[I") (in_4 (List.mem_of_getElem? (i := 229) rfl) rfl)) rfl (v := .ref (ad 20)) rfl d_M_isFounder_13 ?_
    refine lv_iload_n hx hb d_M_isFounder_16 rfl (lv_at hl 1 rfl) ?_
    refine m_ld hx hb hK hm 20 rfl k rfl (show k < 240 from by omega) d_M_isFounder_17 ?_
    refine W.eq (g2 := F0 m 18 ls [.int (nI ow), .ref (ad 21)]) (by rw [how]) ?_
    refine m_ld hx hb hK hm 21 rfl ow rfl (show ow < 120 from by omega) d_M_isFounder_18 ?_
    refine lv_iload_n hx hb d_M_isFounder_19 rfl (lv_at hl 2 rfl) ?_
    refine lv_icmp_ne (tgt := 27) hx hb d_M_isFounder_20 (by decide) (fun c20 => ?_) (fun c20 => ?_)
    · skip
      refine lv_iconst (v := nI 0) hx hb d_M_isFounder_27 (by decide) ?_
      exact W.zret hx hb hr rfl (fun t9 ht hW => ⟨_, rfl, by rw [decide_eq_false (fun z => c20 z.2)]; rfl, ht⟩) (fun q h => by cases h) d_M_isFounder_28 hlk
    · skip
      refine lv_iconst (v := nI 1) hx hb d_M_isFounder_23 (by decide) ?_
      refine lv_goto (tgt := 28) hx hb d_M_isFounder_24 (by decide) ?_
      exact W.zret hx hb hr rfl (fun t9 ht hW => ⟨_, rfl, by rw [decide_eq_true ⟨of_decide_eq_true c5, c20⟩]; rfl, ht⟩) (fun q h => by cases h) d_M_isFounder_28 hlk
set_option maxHeartbeats 4000000 in
set_option maxRecDepth 100000 in
/-- isFounder(NONE, who) -/
theorem c_M_isFounder0 (l : Launch) (g : gG) (H : Heap) (x : Nat) (ad : Nat → Nat) (F : Nat → Int32) (A : Nat → Nat → Int32) (B : Nat → Nat → Int64) (hm0 : mW g H x ad F A B) (w0 : Int32) : Met l y_M_isFounder (wC y_M_isFounder b_M_isFounder 3 (some .boolean)) (rmk 1 0 0 21) (pC g H [.ref x, .int ((-1)), .int w0]) (qP H (fun v => v = some (.int (bI false)))) 0 0 no_ := by
  refine mB (by decide) (Nat.le_of_ble_eq_true rfl) ?_
  intro p e s m below meth c ls C0 hH hZ hnm hl
  have C0 : cF g p s m _ meth c b_M_isFounder 3 "RegistryLogModel" (some .boolean) := C0
  obtain ⟨hx, hb, hml, hown, hts, hr, hlk, hK⟩ := id C0
  subst hH
  have hl : lv_has ls 3 [(0, .ref x), (1, .int ((-1))), (2, .int w0)] := hl
  have hm := mS.rf hm0
  refine lv_aload_n hx hb d_M_isFounder_0 rfl (lv_at hl 0 rfl) ?_
  refine lv_iload_n hx hb d_M_isFounder_1 rfl (lv_at hl 1 rfl) ?_
  refine aP (rV (As := [.int ((-1))]) (rest := []) C0 (c_M_isKnown0 l g _ x ad _ _ _ hm.1) (m_zK hZ hm) k_M_isFounder_2 rfl rfl ⟨Nat.le_of_ble_eq_true rfl, Nat.le_of_ble_eq_true rfl⟩ (m_recv hK hm) rfl hl.1 rfl (Nat.le_of_ble_eq_true rfl) d_M_isFounder_2 ⟨Nat.zero_le _, Nat.zero_le _⟩) ?_
  intro v hv; subst hv
  refine W.eq (g2 := F0 m 5 ls [.int (bI false)]) rfl ?_
  refine z_eq (tgt := 27) (v := false) hx hb d_M_isFounder_5 (by decide) (fun c5 => ?_) (fun c5 => ?_)
  · skip
    refine lv_iconst (v := nI 0) hx hb d_M_isFounder_27 (by decide) ?_
    exact W.zret hx hb hr rfl (fun t9 ht hW => ⟨_, rfl, rfl, ht⟩) (fun q h => by cases h) d_M_isFounder_28 hlk
  · skip
    first | exact absurd c5 (by decide) | exact absurd (by decide) c5
theorem k_M_hasRight_2 : kV "RegistryLogModel" 154 "RegistryLogModel" y_M_isKnown b_M_isKnown 2 (some .boolean) 1 := ⟨(in_5 (List.mem_of_getElem? (i := 170) rfl) rfl), (in_5 (List.mem_of_getElem? (i := 172) rfl) rfl), (in_0 (List.mem_of_getElem? (i := 15) rfl) rfl), (in_1 (List.mem_of_getElem? (i := 22) rfl) rfl), (in_5 (List.mem_of_getElem? (i := 173) rfl) rfl), ⟨by decide, by decide, by decide +kernel⟩⟩
set_option maxHeartbeats 4000000 in
set_option maxRecDepth 100000 in
/-- hasRight(k, who) -/
theorem c_M_hasRight (l : Launch) (g : gG) (H : Heap) (x : Nat) (ad : Nat → Nat) (F : Nat → Int32) (A : Nat → Nat → Int32) (B : Nat → Nat → Int64) (hm0 : mW g H x ad F A B) (k ow w0 : Nat) (hk : k < 240) (how : A 20 k = nI ow) (how2 : ow < 120) : Met l y_M_hasRight (wC y_M_hasRight b_M_hasRight 3 (some .boolean)) (rmk 1 0 0 21) (pC g H [.ref x, .int (nI k), .int (nI w0)]) (qP H (fun v => v = some (.int (bI (decide (A 19 k = nI 1 ∧ (A 21 ow = nI w0 ∨ rbit (A 22 ow) w0 = true))))))) 0 0 no_ := by
  refine mB (by decide) (Nat.le_of_ble_eq_true rfl) ?_
  intro p e s m below meth c ls C0 hH hZ hnm hl
  have C0 : cF g p s m _ meth c b_M_hasRight 3 "RegistryLogModel" (some .boolean) := C0
  obtain ⟨hx, hb, hml, hown, hts, hr, hlk, hK⟩ := id C0
  subst hH
  have hl : lv_has ls 3 [(0, .ref x), (1, .int (nI k)), (2, .int (nI w0))] := hl
  have hm := mS.rf hm0
  refine lv_aload_n hx hb d_M_hasRight_0 rfl (lv_at hl 0 rfl) ?_
  refine lv_iload_n hx hb d_M_hasRight_1 rfl (lv_at hl 1 rfl) ?_
  refine aP (rV (As := [.int (nI k)]) (rest := []) C0 (c_M_isKnown l g _ x ad _ _ _ hm.1 k hk) (m_zK hZ hm) k_M_hasRight_2 rfl rfl ⟨Nat.le_of_ble_eq_true rfl, Nat.le_of_ble_eq_true rfl⟩ (m_recv hK hm) rfl hl.1 rfl (Nat.le_of_ble_eq_true rfl) d_M_hasRight_2 ⟨Nat.zero_le _, Nat.zero_le _⟩) ?_
  intro v hv; subst hv
  refine W.eq (g2 := F0 m 5 ls [.int (bI (decide (A 19 k = nI 1)))]) rfl ?_
  refine z_eq (tgt := 46) (v := decide (A 19 k = nI 1)) hx hb d_M_hasRight_5 (by decide) (fun c5 => ?_) (fun c5 => ?_)
  · skip
    refine lv_iconst (v := nI 0) hx hb d_M_hasRight_46 (by decide) ?_
    exact W.zret hx hb hr rfl (fun t9 ht hW => ⟨_, rfl, by rw [decide_eq_false (fun z => absurd z.1 (of_decide_eq_false c5))]; rfl, ht⟩) (fun q h => by cases h) d_M_hasRight_47 hlk
  · skip
    refine lv_aload_n hx hb d_M_hasRight_8 rfl (lv_at hl 0 rfl) ?_
    refine m_get hx hb hts hown hK hm 21 (by decide) (hts (.fieldLink "RegistryLogModel" 62 "RegistryLogModel" "founders" "[I") (in_4 (List.mem_of_getElem? (i := 230) rfl) rfl)) rfl (v := .ref (ad 21)) rfl d_M_hasRight_9 ?_
    refine lv_aload_n hx hb d_M_hasRight_12 rfl (lv_at hl 0 rfl) ?_
    refine m_get hx hb hts hown hK hm 20 (by decide) (hts (.fieldLink "RegistryLogModel" 59 "RegistryLogModel" "nameOf" "[I") (in_4 (List.mem_of_getElem? (i := 229) rfl) rfl)) rfl (v := .ref (ad 20)) rfl d_M_hasRight_13 ?_
    refine lv_iload_n hx hb d_M_hasRight_16 rfl (lv_at hl 1 rfl) ?_
    refine m_ld hx hb hK hm 20 rfl k rfl (show k < 240 from by omega) d_M_hasRight_17 ?_
    refine W.eq (g2 := F0 m 18 ls [.int (nI ow), .ref (ad 21)]) (by rw [how]) ?_
    refine m_ld hx hb hK hm 21 rfl ow rfl (show ow < 120 from by omega) d_M_hasRight_18 ?_
    refine lv_iload_n hx hb d_M_hasRight_19 rfl (lv_at hl 2 rfl) ?_
    refine lv_icmp_eq (tgt := 42) hx hb d_M_hasRight_20 (by decide) (fun c20 => ?_) (fun c20 => ?_)
    · skip
      refine lv_iconst (v := nI 1) hx hb d_M_hasRight_42 (by decide) ?_
      refine lv_goto (tgt := 47) hx hb d_M_hasRight_43 (by decide) ?_
      exact W.zret hx hb hr rfl (fun t9 ht hW => ⟨_, rfl, by rw [decide_eq_true ⟨of_decide_eq_true c5, Or.inl c20⟩]; rfl, ht⟩) (fun q h => by cases h) d_M_hasRight_47 hlk
    · skip
      refine lv_aload_n hx hb d_M_hasRight_23 rfl (lv_at hl 0 rfl) ?_
      refine m_get hx hb hts hown hK hm 22 (by decide) (hts (.fieldLink "RegistryLogModel" 65 "RegistryLogModel" "rights" "[I") (in_4 (List.mem_of_getElem? (i := 231) rfl) rfl)) rfl (v := .ref (ad 22)) rfl d_M_hasRight_24 ?_
      refine lv_aload_n hx hb d_M_hasRight_27 rfl (lv_at hl 0 rfl) ?_
      refine m_get hx hb hts hown hK hm 20 (by decide) (hts (.fieldLink "RegistryLogModel" 59 "RegistryLogModel" "nameOf" "[I") (in_4 (List.mem_of_getElem? (i := 229) rfl) rfl)) rfl (v := .ref (ad 20)) rfl d_M_hasRight_28 ?_
      refine lv_iload_n hx hb d_M_hasRight_31 rfl (lv_at hl 1 rfl) ?_
      refine m_ld hx hb hK hm 20 rfl k rfl (show k < 240 from by omega) d_M_hasRight_32 ?_
      refine W.eq (g2 := F0 m 33 ls [.int (nI ow), .ref (ad 22)]) (by rw [how]) ?_
      refine m_ld hx hb hK hm 22 rfl ow rfl (show ow < 120 from by omega) d_M_hasRight_33 ?_
      refine lv_iload_n hx hb d_M_hasRight_34 rfl (lv_at hl 2 rfl) ?_
      refine lv_ishr hx hb d_M_hasRight_35 ?_
      refine lv_iconst (v := 1) hx hb d_M_hasRight_36 (by decide) ?_
      refine lv_iand hx hb d_M_hasRight_37 ?_
      refine lv_iconst (v := 1) hx hb d_M_hasRight_38 (by decide) ?_
      refine lv_icmp_ne (tgt := 46) hx hb d_M_hasRight_39 (by decide) (fun c39 => ?_) (fun c39 => ?_)
      · skip
        refine lv_iconst (v := nI 0) hx hb d_M_hasRight_46 (by decide) ?_
        exact W.zret hx hb hr rfl (fun t9 ht hW => ⟨_, rfl, by rw [decide_eq_false (fun z => z.2.elim c20 (fun y => c39 (of_decide_eq_true y)))]; rfl, ht⟩) (fun q h => by cases h) d_M_hasRight_47 hlk
      · skip
        refine lv_iconst (v := nI 1) hx hb d_M_hasRight_42 (by decide) ?_
        refine lv_goto (tgt := 47) hx hb d_M_hasRight_43 (by decide) ?_
        exact W.zret hx hb hr rfl (fun t9 ht hW => ⟨_, rfl, by rw [decide_eq_true ⟨of_decide_eq_true c5, Or.inr (decide_eq_true c39)⟩]; rfl, ht⟩) (fun q h => by cases h) d_M_hasRight_47 hlk
set_option maxHeartbeats 4000000 in
set_option maxRecDepth 100000 in
/-- hasRight(NONE, who) -/
theorem c_M_hasRight0 (l : Launch) (g : gG) (H : Heap) (x : Nat) (ad : Nat → Nat) (F : Nat → Int32) (A : Nat → Nat → Int32) (B : Nat → Nat → Int64) (hm0 : mW g H x ad F A B) (w0 : Int32) : Met l y_M_hasRight (wC y_M_hasRight b_M_hasRight 3 (some .boolean)) (rmk 1 0 0 21) (pC g H [.ref x, .int ((-1)), .int w0]) (qP H (fun v => v = some (.int (bI false)))) 0 0 no_ := by
  refine mB (by decide) (Nat.le_of_ble_eq_true rfl) ?_
  intro p e s m below meth c ls C0 hH hZ hnm hl
  have C0 : cF g p s m _ meth c b_M_hasRight 3 "RegistryLogModel" (some .boolean) := C0
  obtain ⟨hx, hb, hml, hown, hts, hr, hlk, hK⟩ := id C0
  subst hH
  have hl : lv_has ls 3 [(0, .ref x), (1, .int ((-1))), (2, .int w0)] := hl
  have hm := mS.rf hm0
  refine lv_aload_n hx hb d_M_hasRight_0 rfl (lv_at hl 0 rfl) ?_
  refine lv_iload_n hx hb d_M_hasRight_1 rfl (lv_at hl 1 rfl) ?_
  refine aP (rV (As := [.int ((-1))]) (rest := []) C0 (c_M_isKnown0 l g _ x ad _ _ _ hm.1) (m_zK hZ hm) k_M_hasRight_2 rfl rfl ⟨Nat.le_of_ble_eq_true rfl, Nat.le_of_ble_eq_true rfl⟩ (m_recv hK hm) rfl hl.1 rfl (Nat.le_of_ble_eq_true rfl) d_M_hasRight_2 ⟨Nat.zero_le _, Nat.zero_le _⟩) ?_
  intro v hv; subst hv
  refine W.eq (g2 := F0 m 5 ls [.int (bI false)]) rfl ?_
  refine z_eq (tgt := 46) (v := false) hx hb d_M_hasRight_5 (by decide) (fun c5 => ?_) (fun c5 => ?_)
  · skip
    refine lv_iconst (v := nI 0) hx hb d_M_hasRight_46 (by decide) ?_
    exact W.zret hx hb hr rfl (fun t9 ht hW => ⟨_, rfl, rfl, ht⟩) (fun q h => by cases h) d_M_hasRight_47 hlk
  · skip
    first | exact absurd c5 (by decide) | exact absurd (by decide) c5
end
section
def vaL (A : Nat → Nat → Int32) (o v : Int32) : Nat → Nat → Int32 → Int32
  | 0, _, r => r
  | n + 1, i, r => vaL A o v n (i + 1) (if A 23 i = o ∧ A 24 i = v then nI i else r)
set_option maxHeartbeats 4000000 in
set_option maxRecDepth 100000 in
theorem lp_M_versionAt {p : Program} {l : Launch} {e : Env} {s : State} {m : MethodId} {args : Array Value} {below : List Frame} {meth : Method} {c : Code} {g : gG} (C0 : cF g p s m args meth c b_M_versionAt 5 "RegistryLogModel" (some .int)) (hZ : zK g s s.heap) {x : Nat} {ad : Nat → Nat} {F : Nat → Int32} {A : Nat → Nat → Int32} {B : Nat → Nat → Int64} (hm : mS g s.heap s.heap x ad F A B []) (nv : Nat) (hv : F 29 = nI nv) (hv2 : nv ≤ 120) (o v0 res : Int32) :
    ∀ (n i : Nat) (r : Int32), i ≤ nv → nv + 1 ≤ i + n → vaL A o v0 (nv - i) i r = res → ∀ (ls : Array Slot), lv_has ls 5 [(0, .ref x), (1, .int o), (2, .int v0), (3, .int r), (4, .int (nI i))] → W p l e (rmk 0 0 0 0) s m args below meth c s.heap [] 0 0 (MQ below (qP s.heap (fun v => v = some (.int res))) args s 0 0 no_) (F0 m 5 ls []) := by
  obtain ⟨hx, hb, hml, hown, hts, hr, hlk, hK⟩ := id C0
  intro n
  induction n with
  | zero => intro i r h1 h2; exact absurd h2 (by omega)
  | succ n ih =>
    intro i r hi hin hres ls hl
    refine lv_iload hx hb d_M_versionAt_5 (lv_at hl 4 rfl) ?_
    refine lv_aload_n hx hb d_M_versionAt_7 rfl (lv_at hl 0 rfl) ?_
    refine m_get hx hb hts hown hK hm 29 (by decide) (hts (.fieldLink "RegistryLogModel" 136 "RegistryLogModel" "versions" "I") (in_4 (List.mem_of_getElem? (i := 238) rfl) rfl)) rfl (v := .int (nI nv)) (congrArg (fun z => some (Value.int z)) hv) d_M_versionAt_8 ?_
    refine n_ge (tgt := 49) (a := i) (b := nv) hx hb d_M_versionAt_11 (by decide) (by omega) (by omega) (fun c11 => ?_) (fun c11 => ?_)
    · skip
      refine lv_iload_n hx hb d_M_versionAt_49 rfl (lv_at hl 3 rfl) ?_
      rw [show nv - i = 0 by omega] at hres
      exact W.iret hx hb hr (fun t9 ht hW => ⟨_, rfl, by rw [← hres]; rfl, ht⟩) (fun q h => by cases h) d_M_versionAt_50 hlk
    · skip
      refine lv_aload_n hx hb d_M_versionAt_14 rfl (lv_at hl 0 rfl) ?_
      refine m_get hx hb hts hown hK hm 23 (by decide) (hts (.fieldLink "RegistryLogModel" 68 "RegistryLogModel" "versionOf" "[I") (in_4 (List.mem_of_getElem? (i := 232) rfl) rfl)) rfl (v := .ref (ad 23)) rfl d_M_versionAt_15 ?_
      refine lv_iload hx hb d_M_versionAt_18 (lv_at hl 4 rfl) ?_
      refine m_ld hx hb hK hm 23 rfl i rfl (show i < 120 from by omega) d_M_versionAt_20 ?_
      refine lv_iload_n hx hb d_M_versionAt_21 rfl (lv_at hl 1 rfl) ?_
      refine lv_icmp_ne (tgt := 41) hx hb d_M_versionAt_22 (by decide) (fun c22 => ?_) (fun c22 => ?_)
      · skip
        refine lv_iload_n hx hb d_M_versionAt_41 rfl (lv_at hl 3 rfl) ?_
        refine lv_istore_n (lv' := [(3, .int r), (0, .ref x), (1, .int o), (2, .int v0), (4, .int (nI i))]) hx hb d_M_versionAt_42 rfl hl (by decide) rfl (fun ls hl => ?_)
        refine n_inc (a := i) (lv' := [(4, .int (nI (i + 1))), (3, .int r), (0, .ref x), (1, .int o), (2, .int v0)]) hx hb d_M_versionAt_43 hl (k := 4) rfl (by decide) rfl (fun ls hl => ?_)
        refine lv_goto (tgt := 5) hx hb d_M_versionAt_46 (by decide) ?_
        rw [show nv - i = (nv - (i + 1)) + 1 by omega, vaL, if_neg (fun z => c22 z.1)] at hres
        exact ih (i + 1) _ c11 (by omega) hres ls (lv_sub hl [2, 3, 4, 1, 0] rfl)
      · skip
        refine lv_aload_n hx hb d_M_versionAt_25 rfl (lv_at hl 0 rfl) ?_
        refine m_get hx hb hts hown hK hm 24 (by decide) (hts (.fieldLink "RegistryLogModel" 71 "RegistryLogModel" "versionNumber" "[I") (in_4 (List.mem_of_getElem? (i := 233) rfl) rfl)) rfl (v := .ref (ad 24)) rfl d_M_versionAt_26 ?_
        refine lv_iload hx hb d_M_versionAt_29 (lv_at hl 4 rfl) ?_
        refine m_ld hx hb hK hm 24 rfl i rfl (show i < 120 from by omega) d_M_versionAt_31 ?_
        refine lv_iload_n hx hb d_M_versionAt_32 rfl (lv_at hl 2 rfl) ?_
        refine lv_icmp_ne (tgt := 41) hx hb d_M_versionAt_33 (by decide) (fun c33 => ?_) (fun c33 => ?_)
        · skip
          refine lv_iload_n hx hb d_M_versionAt_41 rfl (lv_at hl 3 rfl) ?_
          refine lv_istore_n (lv' := [(3, .int r), (0, .ref x), (1, .int o), (2, .int v0), (4, .int (nI i))]) hx hb d_M_versionAt_42 rfl hl (by decide) rfl (fun ls hl => ?_)
          refine n_inc (a := i) (lv' := [(4, .int (nI (i + 1))), (3, .int r), (0, .ref x), (1, .int o), (2, .int v0)]) hx hb d_M_versionAt_43 hl (k := 4) rfl (by decide) rfl (fun ls hl => ?_)
          refine lv_goto (tgt := 5) hx hb d_M_versionAt_46 (by decide) ?_
          rw [show nv - i = (nv - (i + 1)) + 1 by omega, vaL, if_neg (fun z => c33 z.2)] at hres
          exact ih (i + 1) _ c11 (by omega) hres ls (lv_sub hl [2, 3, 4, 1, 0] rfl)
        · skip
          refine lv_iload hx hb d_M_versionAt_36 (lv_at hl 4 rfl) ?_
          refine lv_goto (tgt := 42) hx hb d_M_versionAt_38 (by decide) ?_
          refine lv_istore_n (lv' := [(3, .int (nI i)), (0, .ref x), (1, .int o), (2, .int v0), (4, .int (nI i))]) hx hb d_M_versionAt_42 rfl hl (by decide) rfl (fun ls hl => ?_)
          refine n_inc (a := i) (lv' := [(4, .int (nI (i + 1))), (3, .int (nI i)), (0, .ref x), (1, .int o), (2, .int v0)]) hx hb d_M_versionAt_43 hl (k := 4) rfl (by decide) rfl (fun ls hl => ?_)
          refine lv_goto (tgt := 5) hx hb d_M_versionAt_46 (by decide) ?_
          rw [show nv - i = (nv - (i + 1)) + 1 by omega, vaL, if_pos ⟨c22, c33⟩] at hres
          exact ih (i + 1) _ c11 (by omega) hres ls (lv_sub hl [2, 3, 4, 1, 0] rfl)
set_option maxHeartbeats 4000000 in
set_option maxRecDepth 100000 in
/-- versionAt(owner, number) -/
theorem c_M_versionAt (l : Launch) (g : gG) (H : Heap) (x : Nat) (ad : Nat → Nat) (F : Nat → Int32) (A : Nat → Nat → Int32) (B : Nat → Nat → Int64) (hm0 : mW g H x ad F A B) (nv : Nat) (hv : F 29 = nI nv) (hv2 : nv ≤ 120) (o v0 : Int32) : Met l y_M_versionAt (wC y_M_versionAt b_M_versionAt 5 (some .int)) (rmk 0 0 0 0) (pC g H [.ref x, .int o, .int v0]) (qP H (fun v => v = some (.int (vaL A o v0 nv 0 (-1))))) 0 0 no_ := by
  refine mB (by decide) (Nat.le_of_ble_eq_true rfl) ?_
  intro p e s m below meth c ls C0 hH hZ hnm hl
  have C0 : cF g p s m _ meth c b_M_versionAt 5 "RegistryLogModel" (some .int) := C0
  obtain ⟨hx, hb, hml, hown, hts, hr, hlk, hK⟩ := id C0
  subst hH
  have hl : lv_has ls 5 [(0, .ref x), (1, .int o), (2, .int v0)] := hl
  have hm := mS.rf hm0
  refine lv_iconst (v := (-1)) hx hb d_M_versionAt_0 (by decide) ?_
  refine lv_istore_n (lv' := [(3, .int ((-1))), (0, .ref x), (1, .int o), (2, .int v0)]) hx hb d_M_versionAt_1 rfl hl (by decide) rfl (fun ls hl => ?_)
  refine lv_iconst (v := nI 0) hx hb d_M_versionAt_2 (by decide) ?_
  refine lv_istore (lv' := [(4, .int (nI 0)), (3, .int ((-1))), (0, .ref x), (1, .int o), (2, .int v0)]) hx hb d_M_versionAt_3 hl (by decide) rfl (fun ls hl => ?_)
  exact lp_M_versionAt C0 hZ hm nv hv hv2 o v0 _ (nv + 1) 0 (-1) (Nat.zero_le _) (by omega) rfl ls (lv_sub hl [2, 3, 4, 1, 0] rfl)
/-- the first i letters of name k and of what lies at fr in the array j agree, and the sizes do -/
def eqP (A : Nat → Nat → Int32) (k j fr n : Nat) : Nat → Bool
  | 0 => decide (A 18 k = nI n)
  | i + 1 => eqP A k j fr n i && decide (A 17 (10 * k + i) = A j (fr + i))
theorem eqP_false {A : Nat → Nat → Int32} {k j fr n i : Nat} (h : eqP A k j fr n i = false) : ∀ d, eqP A k j fr n (i + d) = false
  | 0 => h
  | d + 1 => by rw [← Nat.add_assoc, eqP, eqP_false h d]; rfl
def metA (A : Nat → Nat → Int32) (j fr n : Nat) : Nat → Nat → Int32 → Int32
  | 0, _, r => r
  | c + 1, k, r => metA A j fr n c (k + 1) (if eqP A k j fr n n then nI k else r)
set_option maxHeartbeats 4000000 in
set_option maxRecDepth 100000 in
theorem lp_M_met_in {p : Program} {l : Launch} {e : Env} {s : State} {m : MethodId} {args : Array Value} {below : List Frame} {meth : Method} {c : Code} {g : gG} {R : Room} {Q : State → Prop} (C0 : cF g p s m args meth c b_M_met 8 "RegistryLogModel" (some .int)) (hZ : zK g s s.heap) {x : Nat} {ad : Nat → Nat} {F : Nat → Int32} {A : Nat → Nat → Int32} {B : Nat → Nat → Int64} (j fr n0 k : Nat) (hj : mK j = 1) (hn0 : n0 ≤ 10) (hfr : fr + n0 ≤ mLen j) (hk : k < 240) (r : Int32) (K : ∀ (i7 : Nat) (H : Heap) (locs : List Loc), mS g s.heap H x ad F A B locs → ∀ (ls : Array Slot), lv_has ls 8 [(0, .ref x), (1, .ref (ad j)), (2, .int (nI fr)), (3, .int (nI n0)), (4, .int r), (5, .int (nI k)), (6, .int (bI (eqP A k j fr n0 n0))), (7, .int (nI i7))] → W p l e R s m args below meth c H locs 0 0 Q (F0 m 82 ls [])) :
    ∀ (n i : Nat) (b0 : Bool) (H : Heap) (locs : List Loc), i ≤ n0 → n0 + 1 ≤ i + n → mS g s.heap H x ad F A B locs → b0 = eqP A k j fr n0 i → ∀ (ls : Array Slot), lv_has ls 8 [(0, .ref x), (1, .ref (ad j)), (2, .int (nI fr)), (3, .int (nI n0)), (4, .int r), (5, .int (nI k)), (6, .int (bI b0)), (7, .int (nI i))] → W p l e R s m args below meth c H locs 0 0 Q (F0 m 36 ls []) := by
  obtain ⟨hx, hb, hml, hown, hts, hr, hlk, hK⟩ := id C0
  have hml9 := mLen_lt j
  intro n
  induction n with
  | zero => intro i b0 H locs h1 h2; exact absurd h2 (by omega)
  | succ n ih =>
    intro i b0 H locs hi hin hm hb0 ls hl
    refine lv_iload hx hb d_M_met_36 (lv_at hl 7 rfl) ?_
    refine lv_iload_n hx hb d_M_met_38 rfl (lv_at hl 3 rfl) ?_
    refine n_ge (tgt := 82) (a := i) (b := n0) hx hb d_M_met_39 (by decide) (by omega) (by omega) (fun c39 => ?_) (fun c39 => ?_)
    · skip
      have e9 : i = n0 := by omega
      subst e9
      rw [hb0] at hl
      exact K _ H locs hm ls (lv_sub hl [0, 1, 2, 3, 4, 5, 6, 7] rfl)
    · skip
      refine lv_iload hx hb d_M_met_42 (lv_at hl 6 rfl) ?_
      refine z_eq (tgt := 82) (v := b0) hx hb d_M_met_44 (by decide) (fun c44 => ?_) (fun c44 => ?_)
      · skip
        have q9 := eqP_false (show eqP A k j fr n0 i = false from by rw [← hb0]; exact c44) (n0 - i)
        rw [show i + (n0 - i) = n0 by omega] at q9
        have e9 : b0 = eqP A k j fr n0 n0 := by rw [c44, q9]
        rw [e9] at hl
        exact K _ H locs hm ls (lv_sub hl [0, 1, 2, 3, 4, 5, 6, 7] rfl)
      · skip
        refine lv_aload_n hx hb d_M_met_47 rfl (lv_at hl 0 rfl) ?_
        refine m_get hx hb hts hown hK hm 17 (by decide) (hts (.fieldLink "RegistryLogModel" 50 "RegistryLogModel" "nameLetters" "[I") (in_4 (List.mem_of_getElem? (i := 226) rfl) rfl)) rfl (v := .ref (ad 17)) rfl d_M_met_48 ?_
        refine lv_bipush (v := nI 10) hx hb d_M_met_51 (by decide) ?_
        refine lv_iload hx hb d_M_met_53 (lv_at hl 5 rfl) ?_
        refine n_imul hx hb d_M_met_55 ?_
        refine lv_iload hx hb d_M_met_56 (lv_at hl 7 rfl) ?_
        refine n_iadd hx hb d_M_met_58 ?_
        refine m_ld hx hb hK hm 17 rfl ((10 * k) + i) rfl (show (10 * k) + i < 2400 from by omega) d_M_met_59 ?_
        refine lv_aload_n hx hb d_M_met_60 rfl (lv_at hl 1 rfl) ?_
        refine lv_iload_n hx hb d_M_met_61 rfl (lv_at hl 2 rfl) ?_
        refine lv_iload hx hb d_M_met_62 (lv_at hl 7 rfl) ?_
        refine n_iadd hx hb d_M_met_64 ?_
        refine m_ld hx hb hK hm j hj (fr + i) rfl (by omega) d_M_met_65 ?_
        refine lv_icmp_ne (tgt := 73) hx hb d_M_met_66 (by decide) (fun c66 => ?_) (fun c66 => ?_)
        · skip
          refine lv_iconst (v := nI 0) hx hb d_M_met_73 (by decide) ?_
          refine lv_istore (lv' := [(6, .int (nI 0)), (0, .ref x), (1, .ref (ad j)), (2, .int (nI fr)), (3, .int (nI n0)), (4, .int r), (5, .int (nI k)), (7, .int (nI i))]) hx hb d_M_met_74 hl (by decide) rfl (fun ls hl => ?_)
          refine n_inc (a := i) (lv' := [(7, .int (nI (i + 1))), (6, .int (nI 0)), (0, .ref x), (1, .ref (ad j)), (2, .int (nI fr)), (3, .int (nI n0)), (4, .int r), (5, .int (nI k))]) hx hb d_M_met_76 hl (k := 7) rfl (by decide) rfl (fun ls hl => ?_)
          refine lv_goto (tgt := 36) hx hb d_M_met_79 (by decide) ?_
          exact ih (i + 1) false H locs c39 (by omega) hm (by rw [eqP, ← hb0, c44, decide_eq_false c66]; rfl) ls (lv_sub hl [2, 3, 4, 5, 6, 7, 1, 0] rfl)
        · skip
          refine lv_iconst (v := nI 1) hx hb d_M_met_69 (by decide) ?_
          refine lv_goto (tgt := 74) hx hb d_M_met_70 (by decide) ?_
          refine lv_istore (lv' := [(6, .int (nI 1)), (0, .ref x), (1, .ref (ad j)), (2, .int (nI fr)), (3, .int (nI n0)), (4, .int r), (5, .int (nI k)), (7, .int (nI i))]) hx hb d_M_met_74 hl (by decide) rfl (fun ls hl => ?_)
          refine n_inc (a := i) (lv' := [(7, .int (nI (i + 1))), (6, .int (nI 1)), (0, .ref x), (1, .ref (ad j)), (2, .int (nI fr)), (3, .int (nI n0)), (4, .int r), (5, .int (nI k))]) hx hb d_M_met_76 hl (k := 7) rfl (by decide) rfl (fun ls hl => ?_)
          refine lv_goto (tgt := 36) hx hb d_M_met_79 (by decide) ?_
          exact ih (i + 1) true H locs c39 (by omega) hm (by rw [eqP, ← hb0, c44, decide_eq_true c66]; rfl) ls (lv_sub hl [2, 3, 4, 5, 6, 7, 1, 0] rfl)
set_option maxHeartbeats 4000000 in
set_option maxRecDepth 100000 in
theorem lp_M_met {p : Program} {l : Launch} {e : Env} {s : State} {m : MethodId} {args : Array Value} {below : List Frame} {meth : Method} {c : Code} {g : gG} (C0 : cF g p s m args meth c b_M_met 8 "RegistryLogModel" (some .int)) (hZ : zK g s s.heap) {x : Nat} {ad : Nat → Nat} {F : Nat → Int32} {A : Nat → Nat → Int32} {B : Nat → Nat → Int64} (j fr n0 cn : Nat) (hj : mK j = 1) (hn0 : n0 ≤ 10) (hfr : fr + n0 ≤ mLen j) (hcn : F 27 = nI cn) (hcn2 : cn ≤ 240) (res : Int32) :
    ∀ (n i : Nat) (r : Int32) (H : Heap) (locs : List Loc), i ≤ cn → cn + 1 ≤ i + n → mS g s.heap H x ad F A B locs → metA A j fr n0 (cn - i) i r = res → ∀ (ls : Array Slot), lv_has ls 8 [(0, .ref x), (1, .ref (ad j)), (2, .int (nI fr)), (3, .int (nI n0)), (4, .int r), (5, .int (nI i))] → W p l e (rmk 0 0 0 0) s m args below meth c H locs 0 0 (MQ below (qM g s.heap x ad (fun v F1 A1 B1 => v = some (.int res) ∧ F1 = F ∧ A1 = A ∧ B1 = B)) args s 0 0 (mN x ad)) (F0 m 6 ls []) := by
  obtain ⟨hx, hb, hml, hown, hts, hr, hlk, hK⟩ := id C0
  have hml9 := mLen_lt j
  intro n
  induction n with
  | zero => intro i r H locs h1 h2; exact absurd h2 (by omega)
  | succ n ih =>
    intro i r H locs hi hin hm hres ls hl
    refine lv_iload hx hb d_M_met_6 (lv_at hl 5 rfl) ?_
    refine lv_aload_n hx hb d_M_met_8 rfl (lv_at hl 0 rfl) ?_
    refine m_get hx hb hts hown hK hm 27 (by decide) (hts (.fieldLink "RegistryLogModel" 133 "RegistryLogModel" "names" "I") (in_4 (List.mem_of_getElem? (i := 236) rfl) rfl)) rfl (v := .int (nI cn)) (congrArg (fun z => some (Value.int z)) hcn) d_M_met_9 ?_
    refine n_ge (tgt := 102) (a := i) (b := cn) hx hb d_M_met_12 (by decide) (by omega) (by omega) (fun c12 => ?_) (fun c12 => ?_)
    · skip
      refine lv_iload hx hb d_M_met_102 (lv_at hl 4 rfl) ?_
      rw [show cn - i = 0 by omega] at hres
      exact W.iret hx hb hr (fun t9 ht hW => ⟨_, _, _, _, rfl, by rw [ht]; exact ⟨hm.1, hm.2.1, hm.2.2.1, fun _ h => by cases h⟩, by rw [← hres]; rfl, rfl, rfl, rfl⟩) hm.2.2.2 d_M_met_104 hlk
    · skip
      refine lv_aload_n hx hb d_M_met_15 rfl (lv_at hl 0 rfl) ?_
      refine m_get hx hb hts hown hK hm 18 (by decide) (hts (.fieldLink "RegistryLogModel" 53 "RegistryLogModel" "nameSize" "[I") (in_4 (List.mem_of_getElem? (i := 227) rfl) rfl)) rfl (v := .ref (ad 18)) rfl d_M_met_16 ?_
      refine lv_iload hx hb d_M_met_19 (lv_at hl 5 rfl) ?_
      refine m_ld hx hb hK hm 18 rfl i rfl (show i < 240 from by omega) d_M_met_21 ?_
      refine lv_iload_n hx hb d_M_met_22 rfl (lv_at hl 3 rfl) ?_
      refine lv_icmp_ne (tgt := 30) hx hb d_M_met_23 (by decide) (fun c23 => ?_) (fun c23 => ?_)
      · skip
        refine lv_iconst (v := nI 0) hx hb d_M_met_30 (by decide) ?_
        refine lv_istore (lv' := [(6, .int (nI 0)), (0, .ref x), (1, .ref (ad j)), (2, .int (nI fr)), (3, .int (nI n0)), (4, .int r), (5, .int (nI i))]) hx hb d_M_met_31 hl (by decide) rfl (fun ls hl => ?_)
        refine lv_iconst (v := nI 0) hx hb d_M_met_33 (by decide) ?_
        refine lv_istore (lv' := [(7, .int (nI 0)), (6, .int (nI 0)), (0, .ref x), (1, .ref (ad j)), (2, .int (nI fr)), (3, .int (nI n0)), (4, .int r), (5, .int (nI i))]) hx hb d_M_met_34 hl (by decide) rfl (fun ls hl => ?_)
        refine lp_M_met_in C0 hZ j fr n0 i hj hn0 hfr (by omega) r (fun i7 H locs hm ls hl => ?_) (n0 + 1) 0 false H locs (Nat.zero_le _) (by omega) hm (by rw [eqP, decide_eq_false c23]) ls (lv_sub hl [2, 3, 4, 5, 6, 7, 1, 0] rfl)
        refine lv_iload hx hb d_M_met_82 (lv_at hl 6 rfl) ?_
        refine z_eq (tgt := 92) (v := eqP A i j fr n0 n0) hx hb d_M_met_84 (by decide) (fun c84 => ?_) (fun c84 => ?_)
        · skip
          refine lv_iload hx hb d_M_met_92 (lv_at hl 4 rfl) ?_
          refine lv_istore (lv' := [(4, .int r), (0, .ref x), (1, .ref (ad j)), (2, .int (nI fr)), (3, .int (nI n0)), (5, .int (nI i)), (6, .int (bI (eqP A i j fr n0 n0))), (7, .int (nI i7))]) hx hb d_M_met_94 hl (by decide) rfl (fun ls hl => ?_)
          refine n_inc (a := i) (lv' := [(5, .int (nI (i + 1))), (4, .int r), (0, .ref x), (1, .ref (ad j)), (2, .int (nI fr)), (3, .int (nI n0)), (6, .int (bI (eqP A i j fr n0 n0))), (7, .int (nI i7))]) hx hb d_M_met_96 hl (k := 5) rfl (by decide) rfl (fun ls hl => ?_)
          refine lv_goto (tgt := 6) hx hb d_M_met_99 (by decide) ?_
          rw [show cn - i = (cn - (i + 1)) + 1 by omega, metA, if_neg (by rw [c84]; decide)] at hres
          exact ih (i + 1) _ H locs c12 (by omega) hm hres ls (lv_sub hl [2, 3, 4, 5, 1, 0] rfl)
        · skip
          refine lv_iload hx hb d_M_met_87 (lv_at hl 5 rfl) ?_
          refine lv_goto (tgt := 94) hx hb d_M_met_89 (by decide) ?_
          refine lv_istore (lv' := [(4, .int (nI i)), (0, .ref x), (1, .ref (ad j)), (2, .int (nI fr)), (3, .int (nI n0)), (5, .int (nI i)), (6, .int (bI (eqP A i j fr n0 n0))), (7, .int (nI i7))]) hx hb d_M_met_94 hl (by decide) rfl (fun ls hl => ?_)
          refine n_inc (a := i) (lv' := [(5, .int (nI (i + 1))), (4, .int (nI i)), (0, .ref x), (1, .ref (ad j)), (2, .int (nI fr)), (3, .int (nI n0)), (6, .int (bI (eqP A i j fr n0 n0))), (7, .int (nI i7))]) hx hb d_M_met_96 hl (k := 5) rfl (by decide) rfl (fun ls hl => ?_)
          refine lv_goto (tgt := 6) hx hb d_M_met_99 (by decide) ?_
          rw [show cn - i = (cn - (i + 1)) + 1 by omega, metA, if_pos c84] at hres
          exact ih (i + 1) _ H locs c12 (by omega) hm hres ls (lv_sub hl [2, 3, 4, 5, 1, 0] rfl)
      · skip
        refine lv_iconst (v := nI 1) hx hb d_M_met_26 (by decide) ?_
        refine lv_goto (tgt := 31) hx hb d_M_met_27 (by decide) ?_
        refine lv_istore (lv' := [(6, .int (nI 1)), (0, .ref x), (1, .ref (ad j)), (2, .int (nI fr)), (3, .int (nI n0)), (4, .int r), (5, .int (nI i))]) hx hb d_M_met_31 hl (by decide) rfl (fun ls hl => ?_)
        refine lv_iconst (v := nI 0) hx hb d_M_met_33 (by decide) ?_
        refine lv_istore (lv' := [(7, .int (nI 0)), (6, .int (nI 1)), (0, .ref x), (1, .ref (ad j)), (2, .int (nI fr)), (3, .int (nI n0)), (4, .int r), (5, .int (nI i))]) hx hb d_M_met_34 hl (by decide) rfl (fun ls hl => ?_)
        refine lp_M_met_in C0 hZ j fr n0 i hj hn0 hfr (by omega) r (fun i7 H locs hm ls hl => ?_) (n0 + 1) 0 true H locs (Nat.zero_le _) (by omega) hm (by rw [eqP, decide_eq_true c23]) ls (lv_sub hl [2, 3, 4, 5, 6, 7, 1, 0] rfl)
        refine lv_iload hx hb d_M_met_82 (lv_at hl 6 rfl) ?_
        refine z_eq (tgt := 92) (v := eqP A i j fr n0 n0) hx hb d_M_met_84 (by decide) (fun c84 => ?_) (fun c84 => ?_)
        · skip
          refine lv_iload hx hb d_M_met_92 (lv_at hl 4 rfl) ?_
          refine lv_istore (lv' := [(4, .int r), (0, .ref x), (1, .ref (ad j)), (2, .int (nI fr)), (3, .int (nI n0)), (5, .int (nI i)), (6, .int (bI (eqP A i j fr n0 n0))), (7, .int (nI i7))]) hx hb d_M_met_94 hl (by decide) rfl (fun ls hl => ?_)
          refine n_inc (a := i) (lv' := [(5, .int (nI (i + 1))), (4, .int r), (0, .ref x), (1, .ref (ad j)), (2, .int (nI fr)), (3, .int (nI n0)), (6, .int (bI (eqP A i j fr n0 n0))), (7, .int (nI i7))]) hx hb d_M_met_96 hl (k := 5) rfl (by decide) rfl (fun ls hl => ?_)
          refine lv_goto (tgt := 6) hx hb d_M_met_99 (by decide) ?_
          rw [show cn - i = (cn - (i + 1)) + 1 by omega, metA, if_neg (by rw [c84]; decide)] at hres
          exact ih (i + 1) _ H locs c12 (by omega) hm hres ls (lv_sub hl [2, 3, 4, 5, 1, 0] rfl)
        · skip
          refine lv_iload hx hb d_M_met_87 (lv_at hl 5 rfl) ?_
          refine lv_goto (tgt := 94) hx hb d_M_met_89 (by decide) ?_
          refine lv_istore (lv' := [(4, .int (nI i)), (0, .ref x), (1, .ref (ad j)), (2, .int (nI fr)), (3, .int (nI n0)), (5, .int (nI i)), (6, .int (bI (eqP A i j fr n0 n0))), (7, .int (nI i7))]) hx hb d_M_met_94 hl (by decide) rfl (fun ls hl => ?_)
          refine n_inc (a := i) (lv' := [(5, .int (nI (i + 1))), (4, .int (nI i)), (0, .ref x), (1, .ref (ad j)), (2, .int (nI fr)), (3, .int (nI n0)), (6, .int (bI (eqP A i j fr n0 n0))), (7, .int (nI i7))]) hx hb d_M_met_96 hl (k := 5) rfl (by decide) rfl (fun ls hl => ?_)
          refine lv_goto (tgt := 6) hx hb d_M_met_99 (by decide) ?_
          rw [show cn - i = (cn - (i + 1)) + 1 by omega, metA, if_pos c84] at hres
          exact ih (i + 1) _ H locs c12 (by omega) hm hres ls (lv_sub hl [2, 3, 4, 5, 1, 0] rfl)
set_option maxHeartbeats 4000000 in
set_option maxRecDepth 100000 in
/-- met(row, from, n) -/
theorem c_M_met (l : Launch) (g : gG) (H : Heap) (x : Nat) (ad : Nat → Nat) (F : Nat → Int32) (A : Nat → Nat → Int32) (B : Nat → Nat → Int64) (hm0 : mW g H x ad F A B) (j fr n0 cn : Nat) (hj : mK j = 1) (hn0 : n0 ≤ 10) (hfr : fr + n0 ≤ mLen j) (hcn : F 27 = nI cn) (hcn2 : cn ≤ 240) : Met l y_M_met (wC y_M_met b_M_met 8 (some .int)) (rmk 0 0 0 0) (pC g H [.ref x, .ref (ad j), .int (nI fr), .int (nI n0)]) (qM g H x ad (fun v F1 A1 B1 => v = some (.int (metA A j fr n0 cn 0 (-1))) ∧ F1 = F ∧ A1 = A ∧ B1 = B)) 0 0 (mN x ad) := by
  refine mB (by decide) (Nat.le_of_ble_eq_true rfl) ?_
  intro p e s m below meth c ls C0 hH hZ hnm hl
  have C0 : cF g p s m _ meth c b_M_met 8 "RegistryLogModel" (some .int) := C0
  obtain ⟨hx, hb, hml, hown, hts, hr, hlk, hK⟩ := id C0
  subst hH
  have hl : lv_has ls 8 [(0, .ref x), (1, .ref (ad j)), (2, .int (nI fr)), (3, .int (nI n0))] := hl
  have hm := mS.rf hm0
  refine lv_iconst (v := (-1)) hx hb d_M_met_0 (by decide) ?_
  refine lv_istore (lv' := [(4, .int ((-1))), (0, .ref x), (1, .ref (ad j)), (2, .int (nI fr)), (3, .int (nI n0))]) hx hb d_M_met_1 hl (by decide) rfl (fun ls hl => ?_)
  refine lv_iconst (v := nI 0) hx hb d_M_met_3 (by decide) ?_
  refine lv_istore (lv' := [(5, .int (nI 0)), (4, .int ((-1))), (0, .ref x), (1, .ref (ad j)), (2, .int (nI fr)), (3, .int (nI n0))]) hx hb d_M_met_4 hl (by decide) rfl (fun ls hl => ?_)
  exact lp_M_met C0 hZ j fr n0 cn hj hn0 hfr hcn hcn2 _ (cn + 1) 0 (-1) s.heap [] (Nat.zero_le _) (by omega) hm rfl ls (lv_sub hl [2, 3, 4, 5, 1, 0] rfl)
end
section
/-- the array j holds the text t from o on -/
def txt (A : Nat → Nat → Int32) (j o : Nat) (t : List Nat) : Prop := ∀ k, k < t.length → A j (o + k) = nI (t.getD k 0)
def dgM (kd pe : Int32) (t u : List Nat) (fi fl su : Int32) : Int64 :=
  let h := mixS (mixT (mixS (mixS 0 kd.toInt64) pe.toInt64) t) 256
  if kd = 3 then mixT h u else mixS (mixS h fi.toInt64) (if kd = 0 then su else fl).toInt64
theorem k_M_digestOf_8 : kS "RegistryLogModel" 201 y_M_mix b_M_mix 6 (some .long) 2 := ⟨(in_5 (List.mem_of_getElem? (i := 222) rfl) rfl), (in_5 (List.mem_of_getElem? (i := 223) rfl) rfl), (in_1 (List.mem_of_getElem? (i := 22) rfl) rfl), (in_5 (List.mem_of_getElem? (i := 224) rfl) rfl), ⟨by decide, by decide, by decide +kernel⟩⟩
theorem k_M_digestOf_18 : kS "RegistryLogModel" 201 y_M_mix b_M_mix 6 (some .long) 2 := ⟨(in_5 (List.mem_of_getElem? (i := 222) rfl) rfl), (in_5 (List.mem_of_getElem? (i := 223) rfl) rfl), (in_1 (List.mem_of_getElem? (i := 22) rfl) rfl), (in_5 (List.mem_of_getElem? (i := 224) rfl) rfl), ⟨by decide, by decide, by decide +kernel⟩⟩
theorem k_M_digestOf_50 : kS "RegistryLogModel" 201 y_M_mix b_M_mix 6 (some .long) 2 := ⟨(in_5 (List.mem_of_getElem? (i := 222) rfl) rfl), (in_5 (List.mem_of_getElem? (i := 223) rfl) rfl), (in_1 (List.mem_of_getElem? (i := 22) rfl) rfl), (in_5 (List.mem_of_getElem? (i := 224) rfl) rfl), ⟨by decide, by decide, by decide +kernel⟩⟩
theorem k_M_digestOf_64 : kS "RegistryLogModel" 201 y_M_mix b_M_mix 6 (some .long) 2 := ⟨(in_5 (List.mem_of_getElem? (i := 222) rfl) rfl), (in_5 (List.mem_of_getElem? (i := 223) rfl) rfl), (in_1 (List.mem_of_getElem? (i := 22) rfl) rfl), (in_5 (List.mem_of_getElem? (i := 224) rfl) rfl), ⟨by decide, by decide, by decide +kernel⟩⟩
theorem k_M_digestOf_86 : kS "RegistryLogModel" 201 y_M_mix b_M_mix 6 (some .long) 2 := ⟨(in_5 (List.mem_of_getElem? (i := 222) rfl) rfl), (in_5 (List.mem_of_getElem? (i := 223) rfl) rfl), (in_1 (List.mem_of_getElem? (i := 22) rfl) rfl), (in_5 (List.mem_of_getElem? (i := 224) rfl) rfl), ⟨by decide, by decide, by decide +kernel⟩⟩
theorem k_M_digestOf_120 : kS "RegistryLogModel" 201 y_M_mix b_M_mix 6 (some .long) 2 := ⟨(in_5 (List.mem_of_getElem? (i := 222) rfl) rfl), (in_5 (List.mem_of_getElem? (i := 223) rfl) rfl), (in_1 (List.mem_of_getElem? (i := 22) rfl) rfl), (in_5 (List.mem_of_getElem? (i := 224) rfl) rfl), ⟨by decide, by decide, by decide +kernel⟩⟩
theorem k_M_digestOf_162 : kS "RegistryLogModel" 201 y_M_mix b_M_mix 6 (some .long) 2 := ⟨(in_5 (List.mem_of_getElem? (i := 222) rfl) rfl), (in_5 (List.mem_of_getElem? (i := 223) rfl) rfl), (in_1 (List.mem_of_getElem? (i := 22) rfl) rfl), (in_5 (List.mem_of_getElem? (i := 224) rfl) rfl), ⟨by decide, by decide, by decide +kernel⟩⟩
set_option maxHeartbeats 4000000 in
set_option maxRecDepth 100000 in
theorem lp_M_digestOf2 {p : Program} {l : Launch} {e : Env} {s : State} {m : MethodId} {args : Array Value} {below : List Frame} {meth : Method} {c : Code} {g : gG} (C0 : cF g p s m args meth c b_M_digestOf 6 "RegistryLogModel" (some .long)) (hZ : zK g s s.heap) {x : Nat} {ad : Nat → Nat} {F : Nat → Int32} {A : Nat → Nat → Int32} {B : Nat → Nat → Int64} (hm : mS g s.heap s.heap x ad F A B []) (w0 r0 : Nat) (hw : w0 < 5) (hr0 : r0 < 120) (t u : List Nat) (ht : t.length ≤ 10) (hu : u.length ≤ 10) (hs : A 7 r0 = nI t.length) (ho : A 8 r0 = nI u.length) (h9 : txt A 9 (10 * r0) t) (h10 : txt A 10 (10 * r0) u) (hk3 : A 3 r0 = 0 ∨ A 3 r0 = 1 ∨ A 3 r0 = 2 ∨ A 3 r0 = 3) (res : Int64) :
    ∀ (n i : Nat) (h : Int64), i ≤ u.length → u.length + 1 ≤ i + n → (if A 3 r0 = 3 then mixT h (u.drop i) else h) = res → ∀ (ls : Array Slot), lv_has ls 6 [(0, .ref x), (1, .int (nI w0)), (2, .int (nI r0)), (3, .long h), (5, .int (nI i))] → W p l e (rmk 1 0 0 25) s m args below meth c s.heap [] 0 0 (MQ below (qP s.heap (fun v => v = some (.long res))) args s 0 0 no_) (F0 m 127 ls []) := by
  obtain ⟨hx, hb, hml, hown, hts, hr, hlk, hK⟩ := id C0
  intro n
  induction n with
  | zero => intro i h h1 h2; exact absurd h2 (by omega)
  | succ n ih =>
    intro i h hi hin hres ls hl
    refine lv_iload hx hb d_M_digestOf_127 (lv_at hl 4 rfl) ?_
    refine lv_aload_n hx hb d_M_digestOf_129 rfl (lv_at hl 0 rfl) ?_
    refine m_get hx hb hts hown hK hm 8 (by decide) (hts (.fieldLink "RegistryLogModel" 28 "RegistryLogModel" "otherSize" "[I") (in_4 (List.mem_of_getElem? (i := 217) rfl) rfl)) rfl (v := .ref (ad 8)) rfl d_M_digestOf_130 ?_
    refine lv_iload_n hx hb d_M_digestOf_133 rfl (lv_at hl 2 rfl) ?_
    refine m_ld hx hb hK hm 8 rfl r0 rfl (show r0 < 120 from by omega) d_M_digestOf_134 ?_
    refine W.eq (g2 := F0 m 135 ls [.int (nI u.length), .int (nI i)]) (by rw [ho]) ?_
    refine n_ge (tgt := 172) (a := i) (b := u.length) hx hb d_M_digestOf_135 (by decide) (by omega) (by omega) (fun c135 => ?_) (fun c135 => ?_)
    · skip
      refine lv_lload_n hx hb d_M_digestOf_172 rfl (lv_at hl 3 rfl) ?_
      rw [show u.drop i = [] from List.drop_eq_nil_of_le (by omega)] at hres
      exact W.lret hx hb hr (fun t9 ht hW => ⟨_, rfl, by rw [← hres]; split <;> rfl, ht⟩) (fun q h => by cases h) d_M_digestOf_173 hlk
    · skip
      refine lv_aload_n hx hb d_M_digestOf_138 rfl (lv_at hl 0 rfl) ?_
      refine m_get hx hb hts hown hK hm 3 (by decide) (hts (.fieldLink "RegistryLogModel" 13 "RegistryLogModel" "kind" "[I") (in_4 (List.mem_of_getElem? (i := 212) rfl) rfl)) rfl (v := .ref (ad 3)) rfl d_M_digestOf_139 ?_
      refine lv_iload_n hx hb d_M_digestOf_142 rfl (lv_at hl 2 rfl) ?_
      refine m_ld hx hb hK hm 3 rfl r0 rfl (show r0 < 120 from by omega) d_M_digestOf_143 ?_
      refine lv_iconst (v := 3) hx hb d_M_digestOf_144 (by decide) ?_
      refine lv_icmp_ne (tgt := 172) hx hb d_M_digestOf_145 (by decide) (fun c145 => ?_) (fun c145 => ?_)
      · skip
        refine lv_lload_n hx hb d_M_digestOf_172 rfl (lv_at hl 3 rfl) ?_
        rw [if_neg c145] at hres
        exact W.lret hx hb hr (fun t9 ht hW => ⟨_, rfl, by rw [← hres], ht⟩) (fun q h => by cases h) d_M_digestOf_173 hlk
      · skip
        refine lv_lload_n hx hb d_M_digestOf_148 rfl (lv_at hl 3 rfl) ?_
        refine lv_aload_n hx hb d_M_digestOf_149 rfl (lv_at hl 0 rfl) ?_
        refine m_get hx hb hts hown hK hm 10 (by decide) (hts (.fieldLink "RegistryLogModel" 34 "RegistryLogModel" "otherLetters" "[I") (in_4 (List.mem_of_getElem? (i := 219) rfl) rfl)) rfl (v := .ref (ad 10)) rfl d_M_digestOf_150 ?_
        refine lv_bipush (v := nI 10) hx hb d_M_digestOf_153 (by decide) ?_
        refine lv_iload_n hx hb d_M_digestOf_155 rfl (lv_at hl 2 rfl) ?_
        refine n_imul hx hb d_M_digestOf_156 ?_
        refine lv_iload hx hb d_M_digestOf_157 (lv_at hl 4 rfl) ?_
        refine n_iadd hx hb d_M_digestOf_159 ?_
        refine m_ld hx hb hK hm 10 rfl ((10 * r0) + i) rfl (show (10 * r0) + i < 1200 from by omega) d_M_digestOf_160 ?_
        refine lv_i2l hx hb d_M_digestOf_161 rfl ?_
        refine aP (rS (As := [.long h, .long ((A 10 ((10 * r0) + i)).toInt64)]) (rest := []) C0 (c_M_mix l g _ h ((A 10 ((10 * r0) + i)).toInt64)) (m_zK hZ hm) k_M_digestOf_162 rfl rfl ⟨Nat.le_of_ble_eq_true rfl, Nat.le_of_ble_eq_true rfl⟩ rfl hl.1 rfl (Nat.le_of_ble_eq_true rfl) d_M_digestOf_162 ⟨Nat.zero_le _, Nat.zero_le _⟩) ?_
        intro v hv; subst hv
        refine W.eq (g2 := F0 m 165 ls [.long (mixS h ((A 10 ((10 * r0) + i)).toInt64))]) rfl ?_
        refine lv_topl (fun x_1 ex_1 => ?_)
        refine lv_lstore_n (lv' := [(3, .long x_1), (0, .ref x), (1, .int (nI w0)), (2, .int (nI r0)), (5, .int (nI i))]) hx hb d_M_digestOf_165 rfl hl (by decide) rfl (fun ls hl => ?_)
        refine n_inc (a := i) (lv' := [(5, .int (nI (i + 1))), (3, .long x_1), (0, .ref x), (1, .int (nI w0)), (2, .int (nI r0))]) hx hb d_M_digestOf_166 hl (k := 4) rfl (by decide) rfl (fun ls hl => ?_)
        refine lv_goto (tgt := 127) hx hb d_M_digestOf_169 (by decide) ?_
        have e8 : x_1 = mixS h (nI (u.getD i 0)).toInt64 := by rw [ex_1]; rw [h10 i c135]
        rw [e8] at hl
        rw [if_pos c145, dropT c135, mixT] at hres
        exact ih (i + 1) _ c135 (by omega) (by rw [if_pos c145]; exact hres) ls (lv_sub hl [2, 3, 4, 1, 0] rfl)
set_option maxHeartbeats 4000000 in
set_option maxRecDepth 100000 in
theorem lp_M_digestOf {p : Program} {l : Launch} {e : Env} {s : State} {m : MethodId} {args : Array Value} {below : List Frame} {meth : Method} {c : Code} {g : gG} (C0 : cF g p s m args meth c b_M_digestOf 6 "RegistryLogModel" (some .long)) (hZ : zK g s s.heap) {x : Nat} {ad : Nat → Nat} {F : Nat → Int32} {A : Nat → Nat → Int32} {B : Nat → Nat → Int64} (hm : mS g s.heap s.heap x ad F A B []) (w0 r0 : Nat) (hw : w0 < 5) (hr0 : r0 < 120) (t u : List Nat) (ht : t.length ≤ 10) (hu : u.length ≤ 10) (hs : A 7 r0 = nI t.length) (ho : A 8 r0 = nI u.length) (h9 : txt A 9 (10 * r0) t) (h10 : txt A 10 (10 * r0) u) (hk3 : A 3 r0 = 0 ∨ A 3 r0 = 1 ∨ A 3 r0 = 2 ∨ A 3 r0 = 3) (res : Int64) :
    ∀ (n i : Nat) (h : Int64), i ≤ t.length → t.length + 1 ≤ i + n → (let y := mixS (mixT h (t.drop i)) 256; if A 3 r0 = 3 then mixT y u else mixS (mixS y (A 5 r0).toInt64) (if A 3 r0 = 0 then A 11 (120 * w0 + r0) else A 6 r0).toInt64) = res → ∀ (ls : Array Slot), lv_has ls 6 [(0, .ref x), (1, .int (nI w0)), (2, .int (nI r0)), (3, .long h), (5, .int (nI i))] → W p l e (rmk 1 0 0 25) s m args below meth c s.heap [] 0 0 (MQ below (qP s.heap (fun v => v = some (.long res))) args s 0 0 no_) (F0 m 25 ls []) := by
  obtain ⟨hx, hb, hml, hown, hts, hr, hlk, hK⟩ := id C0
  intro n
  induction n with
  | zero => intro i h h1 h2; exact absurd h2 (by omega)
  | succ n ih =>
    intro i h hi hin hres ls hl
    dsimp only at hres
    refine lv_iload hx hb d_M_digestOf_25 (lv_at hl 4 rfl) ?_
    refine lv_aload_n hx hb d_M_digestOf_27 rfl (lv_at hl 0 rfl) ?_
    refine m_get hx hb hts hown hK hm 7 (by decide) (hts (.fieldLink "RegistryLogModel" 25 "RegistryLogModel" "size" "[I") (in_4 (List.mem_of_getElem? (i := 216) rfl) rfl)) rfl (v := .ref (ad 7)) rfl d_M_digestOf_28 ?_
    refine lv_iload_n hx hb d_M_digestOf_31 rfl (lv_at hl 2 rfl) ?_
    refine m_ld hx hb hK hm 7 rfl r0 rfl (show r0 < 120 from by omega) d_M_digestOf_32 ?_
    refine W.eq (g2 := F0 m 33 ls [.int (nI t.length), .int (nI i)]) (by rw [hs]) ?_
    refine n_ge (tgt := 60) (a := i) (b := t.length) hx hb d_M_digestOf_33 (by decide) (by omega) (by omega) (fun c33 => ?_) (fun c33 => ?_)
    · skip
      rw [show t.drop i = [] from List.drop_eq_nil_of_le (by omega), mixT] at hres
      refine lv_lload_n hx hb d_M_digestOf_60 rfl (lv_at hl 3 rfl) ?_
      refine lv_ldc2 (v := 256) hx hb hown (hts (.constantLong "RegistryLogModel" 205 256) (in_5 (List.mem_of_getElem? (i := 226) rfl) rfl)) d_M_digestOf_61 ?_
      refine aP (rS (As := [.long h, .long 256]) (rest := []) C0 (c_M_mix l g _ h 256) (m_zK hZ hm) k_M_digestOf_64 rfl rfl ⟨Nat.le_of_ble_eq_true rfl, Nat.le_of_ble_eq_true rfl⟩ rfl hl.1 rfl (Nat.le_of_ble_eq_true rfl) d_M_digestOf_64 ⟨Nat.zero_le _, Nat.zero_le _⟩) ?_
      intro v hv; subst hv
      refine W.eq (g2 := F0 m 67 ls [.long (mixS h 256)]) rfl ?_
      refine lv_lstore_n (lv' := [(3, .long (mixS h 256)), (0, .ref x), (1, .int (nI w0)), (2, .int (nI r0)), (5, .int (nI i))]) hx hb d_M_digestOf_67 rfl hl (by decide) rfl (fun ls hl => ?_)
      refine lv_aload_n hx hb d_M_digestOf_68 rfl (lv_at hl 1 rfl) ?_
      refine m_get hx hb hts hown hK hm 3 (by decide) (hts (.fieldLink "RegistryLogModel" 13 "RegistryLogModel" "kind" "[I") (in_4 (List.mem_of_getElem? (i := 212) rfl) rfl)) rfl (v := .ref (ad 3)) rfl d_M_digestOf_69 ?_
      refine lv_iload_n hx hb d_M_digestOf_72 rfl (lv_at hl 3 rfl) ?_
      refine m_ld hx hb hK hm 3 rfl r0 rfl (show r0 < 120 from by omega) d_M_digestOf_73 ?_
      refine lv_iconst (v := 3) hx hb d_M_digestOf_74 (by decide) ?_
      refine lv_icmp_ge (tgt := 124) hx hb d_M_digestOf_75 (by decide) (fun c75 => ?_) (fun c75 => ?_)
      · skip
        refine lv_iconst (v := nI 0) hx hb d_M_digestOf_124 (by decide) ?_
        refine lv_istore (lv' := [(5, .int (nI 0)), (3, .long (mixS h 256)), (0, .ref x), (1, .int (nI w0)), (2, .int (nI r0))]) hx hb d_M_digestOf_125 hl (by decide) rfl (fun ls hl => ?_)
        have k3 : A 3 r0 = 3 := by rcases hk3 with q | q | q | q; (rw [q] at c75; exact absurd c75 (by decide)); (rw [q] at c75; exact absurd c75 (by decide)); (rw [q] at c75; exact absurd c75 (by decide)); exact q
        rw [if_pos k3] at hres
        exact lp_M_digestOf2 C0 hZ hm w0 r0 hw hr0 t u ht hu hs ho h9 h10 hk3 _ (u.length + 1) 0 _ (Nat.zero_le _) (by omega) (by rw [if_pos k3]; exact hres) ls (lv_sub hl [2, 3, 4, 1, 0] rfl)
      · skip
        refine lv_lload_n hx hb d_M_digestOf_78 rfl (lv_at hl 0 rfl) ?_
        refine lv_aload_n hx hb d_M_digestOf_79 rfl (lv_at hl 1 rfl) ?_
        refine m_get hx hb hts hown hK hm 5 (by decide) (hts (.fieldLink "RegistryLogModel" 19 "RegistryLogModel" "first" "[I") (in_4 (List.mem_of_getElem? (i := 214) rfl) rfl)) rfl (v := .ref (ad 5)) rfl d_M_digestOf_80 ?_
        refine lv_iload_n hx hb d_M_digestOf_83 rfl (lv_at hl 3 rfl) ?_
        refine m_ld hx hb hK hm 5 rfl r0 rfl (show r0 < 120 from by omega) d_M_digestOf_84 ?_
        refine lv_i2l hx hb d_M_digestOf_85 rfl ?_
        refine aP (rS (As := [.long (mixS h 256), .long ((A 5 r0).toInt64)]) (rest := []) C0 (c_M_mix l g _ (mixS h 256) ((A 5 r0).toInt64)) (m_zK hZ hm) k_M_digestOf_86 rfl rfl ⟨Nat.le_of_ble_eq_true rfl, Nat.le_of_ble_eq_true rfl⟩ rfl hl.1 rfl (Nat.le_of_ble_eq_true rfl) d_M_digestOf_86 ⟨Nat.zero_le _, Nat.zero_le _⟩) ?_
        intro v hv; subst hv
        refine W.eq (g2 := F0 m 89 ls [.long (mixS (mixS h 256) ((A 5 r0).toInt64))]) rfl ?_
        refine lv_aload_n hx hb d_M_digestOf_89 rfl (lv_at hl 1 rfl) ?_
        refine m_get hx hb hts hown hK hm 3 (by decide) (hts (.fieldLink "RegistryLogModel" 13 "RegistryLogModel" "kind" "[I") (in_4 (List.mem_of_getElem? (i := 212) rfl) rfl)) rfl (v := .ref (ad 3)) rfl d_M_digestOf_90 ?_
        refine lv_iload_n hx hb d_M_digestOf_93 rfl (lv_at hl 3 rfl) ?_
        refine m_ld hx hb hK hm 3 rfl r0 rfl (show r0 < 120 from by omega) d_M_digestOf_94 ?_
        refine lv_if_ne (tgt := 113) hx hb d_M_digestOf_95 (by decide) (fun c95 => ?_) (fun c95 => ?_)
        · skip
          refine lv_aload_n hx hb d_M_digestOf_113 rfl (lv_at hl 1 rfl) ?_
          refine m_get hx hb hts hown hK hm 6 (by decide) (hts (.fieldLink "RegistryLogModel" 22 "RegistryLogModel" "flag" "[I") (in_4 (List.mem_of_getElem? (i := 215) rfl) rfl)) rfl (v := .ref (ad 6)) rfl d_M_digestOf_114 ?_
          refine lv_iload_n hx hb d_M_digestOf_117 rfl (lv_at hl 3 rfl) ?_
          refine m_ld hx hb hK hm 6 rfl r0 rfl (show r0 < 120 from by omega) d_M_digestOf_118 ?_
          refine lv_i2l hx hb d_M_digestOf_119 rfl ?_
          refine aP (rS (As := [.long (mixS (mixS h 256) ((A 5 r0).toInt64)), .long ((A 6 r0).toInt64)]) (rest := []) C0 (c_M_mix l g _ (mixS (mixS h 256) ((A 5 r0).toInt64)) ((A 6 r0).toInt64)) (m_zK hZ hm) k_M_digestOf_120 rfl rfl ⟨Nat.le_of_ble_eq_true rfl, Nat.le_of_ble_eq_true rfl⟩ rfl hl.1 rfl (Nat.le_of_ble_eq_true rfl) d_M_digestOf_120 ⟨Nat.zero_le _, Nat.zero_le _⟩) ?_
          intro v hv; subst hv
          refine W.eq (g2 := F0 m 123 ls [.long (mixS (mixS (mixS h 256) ((A 5 r0).toInt64)) ((A 6 r0).toInt64))]) rfl ?_
          refine lv_topl (fun x_1 ex_1 => ?_)
          refine lv_lstore_n (lv' := [(3, .long x_1), (0, .ref x), (1, .int (nI w0)), (2, .int (nI r0)), (5, .int (nI i))]) hx hb d_M_digestOf_123 rfl hl (by decide) rfl (fun ls hl => ?_)
          refine lv_iconst (v := nI 0) hx hb d_M_digestOf_124 (by decide) ?_
          refine lv_istore (lv' := [(5, .int (nI 0)), (3, .long x_1), (0, .ref x), (1, .int (nI w0)), (2, .int (nI r0))]) hx hb d_M_digestOf_125 hl (by decide) rfl (fun ls hl => ?_)
          subst ex_1
          have k3 : ¬ A 3 r0 = 3 := fun z => c75 (by rw [z]; decide)
          rw [if_neg k3, if_neg c95] at hres
          exact lp_M_digestOf2 C0 hZ hm w0 r0 hw hr0 t u ht hu hs ho h9 h10 hk3 _ (u.length + 1) 0 _ (Nat.zero_le _) (by omega) (by rw [if_neg k3]; exact hres) ls (lv_sub hl [2, 3, 4, 1, 0] rfl)
        · skip
          refine lv_aload_n hx hb d_M_digestOf_98 rfl (lv_at hl 1 rfl) ?_
          refine m_get hx hb hts hown hK hm 11 (by decide) (hts (.fieldLink "RegistryLogModel" 37 "RegistryLogModel" "sums" "[I") (in_4 (List.mem_of_getElem? (i := 220) rfl) rfl)) rfl (v := .ref (ad 11)) rfl d_M_digestOf_99 ?_
          refine lv_bipush (v := nI 120) hx hb d_M_digestOf_102 (by decide) ?_
          refine lv_iload_n hx hb d_M_digestOf_104 rfl (lv_at hl 2 rfl) ?_
          refine n_imul hx hb d_M_digestOf_105 ?_
          refine lv_iload_n hx hb d_M_digestOf_106 rfl (lv_at hl 3 rfl) ?_
          refine n_iadd hx hb d_M_digestOf_107 ?_
          refine m_ld hx hb hK hm 11 rfl ((120 * w0) + r0) rfl (show (120 * w0) + r0 < 600 from by omega) d_M_digestOf_108 ?_
          refine lv_i2l hx hb d_M_digestOf_109 rfl ?_
          refine lv_goto (tgt := 120) hx hb d_M_digestOf_110 (by decide) ?_
          refine aP (rS (As := [.long (mixS (mixS h 256) ((A 5 r0).toInt64)), .long ((A 11 ((120 * w0) + r0)).toInt64)]) (rest := []) C0 (c_M_mix l g _ (mixS (mixS h 256) ((A 5 r0).toInt64)) ((A 11 ((120 * w0) + r0)).toInt64)) (m_zK hZ hm) k_M_digestOf_120 rfl rfl ⟨Nat.le_of_ble_eq_true rfl, Nat.le_of_ble_eq_true rfl⟩ rfl hl.1 rfl (Nat.le_of_ble_eq_true rfl) d_M_digestOf_120 ⟨Nat.zero_le _, Nat.zero_le _⟩) ?_
          intro v hv; subst hv
          refine W.eq (g2 := F0 m 123 ls [.long (mixS (mixS (mixS h 256) ((A 5 r0).toInt64)) ((A 11 ((120 * w0) + r0)).toInt64))]) rfl ?_
          refine lv_topl (fun x_2 ex_2 => ?_)
          refine lv_lstore_n (lv' := [(3, .long x_2), (0, .ref x), (1, .int (nI w0)), (2, .int (nI r0)), (5, .int (nI i))]) hx hb d_M_digestOf_123 rfl hl (by decide) rfl (fun ls hl => ?_)
          refine lv_iconst (v := nI 0) hx hb d_M_digestOf_124 (by decide) ?_
          refine lv_istore (lv' := [(5, .int (nI 0)), (3, .long x_2), (0, .ref x), (1, .int (nI w0)), (2, .int (nI r0))]) hx hb d_M_digestOf_125 hl (by decide) rfl (fun ls hl => ?_)
          subst ex_2
          have k3 : ¬ A 3 r0 = 3 := fun z => c75 (by rw [z]; decide)
          rw [if_neg k3, if_pos c95] at hres
          exact lp_M_digestOf2 C0 hZ hm w0 r0 hw hr0 t u ht hu hs ho h9 h10 hk3 _ (u.length + 1) 0 _ (Nat.zero_le _) (by omega) (by rw [if_neg k3]; exact hres) ls (lv_sub hl [2, 3, 4, 1, 0] rfl)
    · skip
      refine lv_lload_n hx hb d_M_digestOf_36 rfl (lv_at hl 3 rfl) ?_
      refine lv_aload_n hx hb d_M_digestOf_37 rfl (lv_at hl 0 rfl) ?_
      refine m_get hx hb hts hown hK hm 9 (by decide) (hts (.fieldLink "RegistryLogModel" 31 "RegistryLogModel" "letters" "[I") (in_4 (List.mem_of_getElem? (i := 218) rfl) rfl)) rfl (v := .ref (ad 9)) rfl d_M_digestOf_38 ?_
      refine lv_bipush (v := nI 10) hx hb d_M_digestOf_41 (by decide) ?_
      refine lv_iload_n hx hb d_M_digestOf_43 rfl (lv_at hl 2 rfl) ?_
      refine n_imul hx hb d_M_digestOf_44 ?_
      refine lv_iload hx hb d_M_digestOf_45 (lv_at hl 4 rfl) ?_
      refine n_iadd hx hb d_M_digestOf_47 ?_
      refine m_ld hx hb hK hm 9 rfl ((10 * r0) + i) rfl (show (10 * r0) + i < 1200 from by omega) d_M_digestOf_48 ?_
      refine lv_i2l hx hb d_M_digestOf_49 rfl ?_
      refine aP (rS (As := [.long h, .long ((A 9 ((10 * r0) + i)).toInt64)]) (rest := []) C0 (c_M_mix l g _ h ((A 9 ((10 * r0) + i)).toInt64)) (m_zK hZ hm) k_M_digestOf_50 rfl rfl ⟨Nat.le_of_ble_eq_true rfl, Nat.le_of_ble_eq_true rfl⟩ rfl hl.1 rfl (Nat.le_of_ble_eq_true rfl) d_M_digestOf_50 ⟨Nat.zero_le _, Nat.zero_le _⟩) ?_
      intro v hv; subst hv
      refine W.eq (g2 := F0 m 53 ls [.long (mixS h ((A 9 ((10 * r0) + i)).toInt64))]) rfl ?_
      refine lv_topl (fun x_3 ex_3 => ?_)
      refine lv_lstore_n (lv' := [(3, .long x_3), (0, .ref x), (1, .int (nI w0)), (2, .int (nI r0)), (5, .int (nI i))]) hx hb d_M_digestOf_53 rfl hl (by decide) rfl (fun ls hl => ?_)
      refine n_inc (a := i) (lv' := [(5, .int (nI (i + 1))), (3, .long x_3), (0, .ref x), (1, .int (nI w0)), (2, .int (nI r0))]) hx hb d_M_digestOf_54 hl (k := 4) rfl (by decide) rfl (fun ls hl => ?_)
      refine lv_goto (tgt := 25) hx hb d_M_digestOf_57 (by decide) ?_
      have e8 : x_3 = mixS h (nI (t.getD i 0)).toInt64 := by rw [ex_3]; rw [h9 i c33]
      rw [e8] at hl
      rw [dropT c33, mixT] at hres
      exact ih (i + 1) _ c33 (by omega) hres ls (lv_sub hl [2, 3, 4, 1, 0] rfl)
set_option maxHeartbeats 4000000 in
set_option maxRecDepth 100000 in
/-- digestOf(who, i) -/
theorem c_M_digestOf (l : Launch) (g : gG) (H : Heap) (x : Nat) (ad : Nat → Nat) (F : Nat → Int32) (A : Nat → Nat → Int32) (B : Nat → Nat → Int64) (hm0 : mW g H x ad F A B) (w0 r0 : Nat) (hw : w0 < 5) (hr0 : r0 < 120) (t u : List Nat) (ht : t.length ≤ 10) (hu : u.length ≤ 10) (hs : A 7 r0 = nI t.length) (ho : A 8 r0 = nI u.length) (h9 : txt A 9 (10 * r0) t) (h10 : txt A 10 (10 * r0) u) (hk3 : A 3 r0 = 0 ∨ A 3 r0 = 1 ∨ A 3 r0 = 2 ∨ A 3 r0 = 3) : Met l y_M_digestOf (wC y_M_digestOf b_M_digestOf 6 (some .long)) (rmk 1 0 0 25) (pC g H [.ref x, .int (nI w0), .int (nI r0)]) (qP H (fun v => v = some (.long (dgM (A 3 r0) (A 4 r0) t u (A 5 r0) (A 6 r0) (A 11 (120 * w0 + r0)))))) 0 0 no_ := by
  refine mB (by decide) (Nat.le_of_ble_eq_true rfl) ?_
  intro p e s m below meth c ls C0 hH hZ hnm hl
  have C0 : cF g p s m _ meth c b_M_digestOf 6 "RegistryLogModel" (some .long) := C0
  obtain ⟨hx, hb, hml, hown, hts, hr, hlk, hK⟩ := id C0
  subst hH
  have hl : lv_has ls 6 [(0, .ref x), (1, .int (nI w0)), (2, .int (nI r0))] := hl
  have hm := mS.rf hm0
  refine lv_lconst (v := 0) hx hb d_M_digestOf_0 (by decide) ?_
  refine lv_aload_n hx hb d_M_digestOf_1 rfl (lv_at hl 0 rfl) ?_
  refine m_get hx hb hts hown hK hm 3 (by decide) (hts (.fieldLink "RegistryLogModel" 13 "RegistryLogModel" "kind" "[I") (in_4 (List.mem_of_getElem? (i := 212) rfl) rfl)) rfl (v := .ref (ad 3)) rfl d_M_digestOf_2 ?_
  refine lv_iload_n hx hb d_M_digestOf_5 rfl (lv_at hl 2 rfl) ?_
  refine m_ld hx hb hK hm 3 rfl r0 rfl (show r0 < 120 from by omega) d_M_digestOf_6 ?_
  refine lv_i2l hx hb d_M_digestOf_7 rfl ?_
  refine aP (rS (As := [.long 0, .long ((A 3 r0).toInt64)]) (rest := []) C0 (c_M_mix l g _ 0 ((A 3 r0).toInt64)) (m_zK hZ hm) k_M_digestOf_8 rfl rfl ⟨Nat.le_of_ble_eq_true rfl, Nat.le_of_ble_eq_true rfl⟩ rfl hl.1 rfl (Nat.le_of_ble_eq_true rfl) d_M_digestOf_8 ⟨Nat.zero_le _, Nat.zero_le _⟩) ?_
  intro v hv; subst hv
  refine W.eq (g2 := F0 m 11 ls [.long (mixS 0 ((A 3 r0).toInt64))]) rfl ?_
  refine lv_aload_n hx hb d_M_digestOf_11 rfl (lv_at hl 0 rfl) ?_
  refine m_get hx hb hts hown hK hm 4 (by decide) (hts (.fieldLink "RegistryLogModel" 16 "RegistryLogModel" "person" "[I") (in_4 (List.mem_of_getElem? (i := 213) rfl) rfl)) rfl (v := .ref (ad 4)) rfl d_M_digestOf_12 ?_
  refine lv_iload_n hx hb d_M_digestOf_15 rfl (lv_at hl 2 rfl) ?_
  refine m_ld hx hb hK hm 4 rfl r0 rfl (show r0 < 120 from by omega) d_M_digestOf_16 ?_
  refine lv_i2l hx hb d_M_digestOf_17 rfl ?_
  refine aP (rS (As := [.long (mixS 0 ((A 3 r0).toInt64)), .long ((A 4 r0).toInt64)]) (rest := []) C0 (c_M_mix l g _ (mixS 0 ((A 3 r0).toInt64)) ((A 4 r0).toInt64)) (m_zK hZ hm) k_M_digestOf_18 rfl rfl ⟨Nat.le_of_ble_eq_true rfl, Nat.le_of_ble_eq_true rfl⟩ rfl hl.1 rfl (Nat.le_of_ble_eq_true rfl) d_M_digestOf_18 ⟨Nat.zero_le _, Nat.zero_le _⟩) ?_
  intro v hv; subst hv
  refine W.eq (g2 := F0 m 21 ls [.long (mixS (mixS 0 ((A 3 r0).toInt64)) ((A 4 r0).toInt64))]) rfl ?_
  refine lv_topl (fun x_1 ex_1 => ?_)
  refine lv_lstore_n (lv' := [(3, .long x_1), (0, .ref x), (1, .int (nI w0)), (2, .int (nI r0))]) hx hb d_M_digestOf_21 rfl hl (by decide) rfl (fun ls hl => ?_)
  refine lv_iconst (v := nI 0) hx hb d_M_digestOf_22 (by decide) ?_
  refine lv_istore (lv' := [(5, .int (nI 0)), (3, .long x_1), (0, .ref x), (1, .int (nI w0)), (2, .int (nI r0))]) hx hb d_M_digestOf_23 hl (by decide) rfl (fun ls hl => ?_)
  subst ex_1
  exact lp_M_digestOf C0 hZ hm w0 r0 hw hr0 t u ht hu hs ho h9 h10 hk3 _ (t.length + 1) 0 _ (Nat.zero_le _) (by omega) rfl ls (lv_sub hl [2, 3, 4, 1, 0] rfl)
end
section
theorem updA2 (A : Nat → Nat → Int32) (d : Nat) (f f2 : Nat → Int32) : updA (updA A d f) d f2 = updA A d f2 := by
  funext k
  unfold updA
  split <;> rfl
theorem cpy_s {f g9 : Nat → Int32} {so do9 i : Nat} : upd (va_cpy f g9 so do9 i) (do9 + i) (f (so + i)) = va_cpy f g9 so do9 (i + 1) := by
  funext q
  unfold upd va_cpy
  by_cases h : q = do9 + i
  · subst h
    rw [if_pos rfl, if_pos (by omega)]
    congr 1
    omega
  · rw [if_neg h]
    by_cases h2 : do9 ≤ q ∧ q < do9 + i
    · rw [if_pos h2, if_pos (by omega)]
    · rw [if_neg h2, if_neg (by omega)]
theorem cpy_0 {f g9 : Nat → Int32} {so do9 : Nat} : va_cpy f g9 so do9 0 = g9 := by
  funext q
  unfold va_cpy
  rw [if_neg (by omega)]
theorem updA_id (A : Nat → Nat → Int32) (d : Nat) : updA A d (A d) = A := by
  funext k
  unfold updA
  by_cases h : k = d
  · rw [if_pos h, h]
  · rw [if_neg h]
theorem k_M_isName_21 : kS "RegistryLogModel" 115 y_M_isLetter b_M_isLetter 1 (some .boolean) 1 := ⟨(in_5 (List.mem_of_getElem? (i := 130) rfl) rfl), (in_5 (List.mem_of_getElem? (i := 131) rfl) rfl), (in_1 (List.mem_of_getElem? (i := 22) rfl) rfl), (in_5 (List.mem_of_getElem? (i := 132) rfl) rfl), ⟨by decide, by decide, by decide +kernel⟩⟩
theorem k_M_isName_35 : kS "RegistryLogModel" 115 y_M_isLetter b_M_isLetter 1 (some .boolean) 1 := ⟨(in_5 (List.mem_of_getElem? (i := 130) rfl) rfl), (in_5 (List.mem_of_getElem? (i := 131) rfl) rfl), (in_1 (List.mem_of_getElem? (i := 22) rfl) rfl), (in_5 (List.mem_of_getElem? (i := 132) rfl) rfl), ⟨by decide, by decide, by decide +kernel⟩⟩
theorem k_M_isName_67 : kS "RegistryLogModel" 115 y_M_isLetter b_M_isLetter 1 (some .boolean) 1 := ⟨(in_5 (List.mem_of_getElem? (i := 130) rfl) rfl), (in_5 (List.mem_of_getElem? (i := 131) rfl) rfl), (in_1 (List.mem_of_getElem? (i := 22) rfl) rfl), (in_5 (List.mem_of_getElem? (i := 132) rfl) rfl), ⟨by decide, by decide, by decide +kernel⟩⟩
def nmL (T : List Nat) : Nat → Nat → Bool → Bool
  | 0, _, b => b
  | n + 1, i, b => if b then nmL T n (i + 1) (letS (T.getD i 0) || (decide (T.getD i 0 = 45) && !decide (T.getD (i - 1) 0 = 45))) else b
theorem nmL_f (T : List Nat) : ∀ n i, nmL T n i false = false
  | 0, _ => rfl
  | n + 1, i => rfl
def nameM (T : List Nat) (a b : Nat) : Bool := if 1 ≤ b - a ∧ b - a ≤ 10 ∧ letS (T.getD a 0) = true ∧ letS (T.getD (b - 1) 0) = true then nmL T (b - a) a true else false
set_option maxHeartbeats 4000000 in
set_option maxRecDepth 100000 in
theorem lp_M_isName {p : Program} {l : Launch} {e : Env} {s : State} {m : MethodId} {args : Array Value} {below : List Frame} {meth : Method} {c : Code} {g : gG} (C0 : cF g p s m args meth c b_M_isName 5 "RegistryLogModel" (some .boolean)) (hZ : zK g s s.heap) {x : Nat} {ad : Nat → Nat} {F : Nat → Int32} {A : Nat → Nat → Int32} {B : Nat → Nat → Int64} (hm : mS g s.heap s.heap x ad F A B []) (T : List Nat) (hT : ∀ k, k < T.length → A 1 k = nI (T.getD k 0)) (hc : ∀ k, T.getD k 0 < 128) (hT24 : T.length ≤ 24) (a b : Nat) (hab : a ≤ b) (hbT : b ≤ T.length) (res : Bool) :
    ∀ (n i : Nat) (b0 : Bool), i ≤ b → b + 1 ≤ i + n → a ≤ i → (i = a → letS (T.getD a 0) = true) → nmL T (b - i) i b0 = res → ∀ (ls : Array Slot), lv_has ls 5 [(0, .ref x), (1, .int (nI a)), (2, .int (nI b)), (3, .int (bI b0)), (4, .int (nI i))] → W p l e (rmk 1 0 0 20) s m args below meth c s.heap [] 0 0 (MQ below (qP s.heap (fun v => v = some (.int (bI res)))) args s 0 0 no_) (F0 m 50 ls []) := by
  obtain ⟨hx, hb, hml, hown, hts, hr, hlk, hK⟩ := id C0
  intro n
  induction n with
  | zero => intro i b0 h1 h2; exact absurd h2 (by omega)
  | succ n ih =>
    intro i b0 hi hin hai0 hfst hres ls hl
    have hci := hc i
    have hci1 := hc (i - 1)
    refine lv_iload hx hb d_M_isName_50 (lv_at hl 4 rfl) ?_
    refine lv_iload_n hx hb d_M_isName_52 rfl (lv_at hl 2 rfl) ?_
    refine n_ge (tgt := 111) (a := i) (b := b) hx hb d_M_isName_53 (by decide) (by omega) (by omega) (fun c53 => ?_) (fun c53 => ?_)
    · skip
      refine lv_iload_n hx hb d_M_isName_111 rfl (lv_at hl 3 rfl) ?_
      rw [show b - i = 0 by omega, nmL] at hres
      exact W.zret hx hb hr (by cases b0 <;> rfl) (fun t9 ht hW => ⟨_, rfl, by rw [← hres], ht⟩) (fun q h => by cases h) d_M_isName_112 hlk
    · skip
      refine lv_iload_n hx hb d_M_isName_56 rfl (lv_at hl 3 rfl) ?_
      refine z_eq (tgt := 111) (v := b0) hx hb d_M_isName_57 (by decide) (fun c57 => ?_) (fun c57 => ?_)
      · skip
        refine lv_iload_n hx hb d_M_isName_111 rfl (lv_at hl 3 rfl) ?_
        rw [c57, nmL_f, ← c57] at hres
        exact W.zret hx hb hr (by cases b0 <;> rfl) (fun t9 ht hW => ⟨_, rfl, by rw [← hres], ht⟩) (fun q h => by cases h) d_M_isName_112 hlk
      · skip
        refine lv_aload_n hx hb d_M_isName_60 rfl (lv_at hl 0 rfl) ?_
        refine m_get hx hb hts hown hK hm 1 (by decide) (hts (.fieldLink "RegistryLogModel" 7 "RegistryLogModel" "text" "[I") (in_4 (List.mem_of_getElem? (i := 210) rfl) rfl)) rfl (v := .ref (ad 1)) rfl d_M_isName_61 ?_
        refine lv_iload hx hb d_M_isName_64 (lv_at hl 4 rfl) ?_
        refine m_ld hx hb hK hm 1 rfl i rfl (show i < 24 from by omega) d_M_isName_66 ?_
        refine W.eq (g2 := F0 m 67 ls [.int (nI (T.getD i 0))]) (by rw [hT i (by omega)]) ?_
        refine aP (rS (As := [.int (nI (T.getD i 0))]) (rest := []) C0 (c_M_isLetter l g _ (T.getD i 0) (by have := hc i; omega)) (m_zK hZ hm) k_M_isName_67 rfl rfl ⟨Nat.le_of_ble_eq_true rfl, Nat.le_of_ble_eq_true rfl⟩ rfl hl.1 rfl (Nat.le_of_ble_eq_true rfl) d_M_isName_67 ⟨Nat.zero_le _, Nat.zero_le _⟩) ?_
        intro v hv; subst hv
        refine W.eq (g2 := F0 m 70 ls [.int (bI (letS (T.getD i 0)))]) rfl ?_
        refine z_ne (tgt := 99) (v := letS (T.getD i 0)) hx hb d_M_isName_70 (by decide) (fun c70 => ?_) (fun c70 => ?_)
        · skip
          refine lv_iconst (v := nI 1) hx hb d_M_isName_99 (by decide) ?_
          refine lv_goto (tgt := 104) hx hb d_M_isName_100 (by decide) ?_
          refine lv_istore_n (lv' := [(3, .int (nI 1)), (0, .ref x), (1, .int (nI a)), (2, .int (nI b)), (4, .int (nI i))]) hx hb d_M_isName_104 rfl hl (by decide) rfl (fun ls hl => ?_)
          refine n_inc (a := i) (lv' := [(4, .int (nI (i + 1))), (3, .int (nI 1)), (0, .ref x), (1, .int (nI a)), (2, .int (nI b))]) hx hb d_M_isName_105 hl (k := 4) rfl (by decide) rfl (fun ls hl => ?_)
          refine lv_goto (tgt := 50) hx hb d_M_isName_108 (by decide) ?_
          have e8 : (letS (T.getD i 0) || (decide (T.getD i 0 = 45) && !decide (T.getD (i - 1) 0 = 45))) = true := by rw [c70, Bool.true_or]
          rw [show b - i = (b - (i + 1)) + 1 by omega, nmL, c57, if_pos rfl, e8] at hres
          exact ih (i + 1) true c53 (by omega) (by omega) (fun h => by omega) hres ls (lv_sub hl [2, 3, 4, 1, 0] rfl)
        · skip
          refine lv_aload_n hx hb d_M_isName_73 rfl (lv_at hl 0 rfl) ?_
          refine m_get hx hb hts hown hK hm 1 (by decide) (hts (.fieldLink "RegistryLogModel" 7 "RegistryLogModel" "text" "[I") (in_4 (List.mem_of_getElem? (i := 210) rfl) rfl)) rfl (v := .ref (ad 1)) rfl d_M_isName_74 ?_
          refine lv_iload hx hb d_M_isName_77 (lv_at hl 4 rfl) ?_
          refine m_ld hx hb hK hm 1 rfl i rfl (show i < 24 from by omega) d_M_isName_79 ?_
          refine W.eq (g2 := F0 m 80 ls [.int (nI (T.getD i 0))]) (by rw [hT i (by omega)]) ?_
          refine lv_bipush (v := nI 45) hx hb d_M_isName_80 (by decide) ?_
          refine n_ne (tgt := 103) (a := T.getD i 0) (b := 45) hx hb d_M_isName_82 (by decide) (by omega) (by omega) (fun c82 => ?_) (fun c82 => ?_)
          · skip
            refine lv_iconst (v := nI 0) hx hb d_M_isName_103 (by decide) ?_
            refine lv_istore_n (lv' := [(3, .int (nI 0)), (0, .ref x), (1, .int (nI a)), (2, .int (nI b)), (4, .int (nI i))]) hx hb d_M_isName_104 rfl hl (by decide) rfl (fun ls hl => ?_)
            refine n_inc (a := i) (lv' := [(4, .int (nI (i + 1))), (3, .int (nI 0)), (0, .ref x), (1, .int (nI a)), (2, .int (nI b))]) hx hb d_M_isName_105 hl (k := 4) rfl (by decide) rfl (fun ls hl => ?_)
            refine lv_goto (tgt := 50) hx hb d_M_isName_108 (by decide) ?_
            have e8 : (letS (T.getD i 0) || (decide (T.getD i 0 = 45) && !decide (T.getD (i - 1) 0 = 45))) = false := by rw [c70, decide_eq_false c82]; rfl
            rw [show b - i = (b - (i + 1)) + 1 by omega, nmL, c57, if_pos rfl, e8] at hres
            exact ih (i + 1) false c53 (by omega) (by omega) (fun h => by omega) hres ls (lv_sub hl [2, 3, 4, 1, 0] rfl)
          · skip
            have hai : 1 ≤ i := by rcases Nat.lt_or_ge 0 i with q | q; exact q; exact absurd (hfst (by omega)) (by rw [show a = i by omega, c70]; decide)
            refine lv_aload_n hx hb d_M_isName_85 rfl (lv_at hl 0 rfl) ?_
            refine m_get hx hb hts hown hK hm 1 (by decide) (hts (.fieldLink "RegistryLogModel" 7 "RegistryLogModel" "text" "[I") (in_4 (List.mem_of_getElem? (i := 210) rfl) rfl)) rfl (v := .ref (ad 1)) rfl d_M_isName_86 ?_
            refine lv_iload hx hb d_M_isName_89 (lv_at hl 4 rfl) ?_
            refine lv_iconst (v := nI 1) hx hb d_M_isName_91 (by decide) ?_
            refine n_isub hx hb (by omega) d_M_isName_92 ?_
            refine m_ld hx hb hK hm 1 rfl (i - 1) rfl (show i - 1 < 24 from by omega) d_M_isName_93 ?_
            refine W.eq (g2 := F0 m 94 ls [.int (nI (T.getD (i - 1) 0))]) (by rw [hT (i - 1) (by omega)]) ?_
            refine lv_bipush (v := nI 45) hx hb d_M_isName_94 (by decide) ?_
            refine n_eq (tgt := 103) (a := T.getD (i - 1) 0) (b := 45) hx hb d_M_isName_96 (by decide) (by omega) (by omega) (fun c96 => ?_) (fun c96 => ?_)
            · skip
              refine lv_iconst (v := nI 0) hx hb d_M_isName_103 (by decide) ?_
              refine lv_istore_n (lv' := [(3, .int (nI 0)), (0, .ref x), (1, .int (nI a)), (2, .int (nI b)), (4, .int (nI i))]) hx hb d_M_isName_104 rfl hl (by decide) rfl (fun ls hl => ?_)
              refine n_inc (a := i) (lv' := [(4, .int (nI (i + 1))), (3, .int (nI 0)), (0, .ref x), (1, .int (nI a)), (2, .int (nI b))]) hx hb d_M_isName_105 hl (k := 4) rfl (by decide) rfl (fun ls hl => ?_)
              refine lv_goto (tgt := 50) hx hb d_M_isName_108 (by decide) ?_
              have e8 : (letS (T.getD i 0) || (decide (T.getD i 0 = 45) && !decide (T.getD (i - 1) 0 = 45))) = false := by rw [c70, decide_eq_true c82, decide_eq_true c96]; rfl
              rw [show b - i = (b - (i + 1)) + 1 by omega, nmL, c57, if_pos rfl, e8] at hres
              exact ih (i + 1) false c53 (by omega) (by omega) (fun h => by omega) hres ls (lv_sub hl [2, 3, 4, 1, 0] rfl)
            · skip
              refine lv_iconst (v := nI 1) hx hb d_M_isName_99 (by decide) ?_
              refine lv_goto (tgt := 104) hx hb d_M_isName_100 (by decide) ?_
              refine lv_istore_n (lv' := [(3, .int (nI 1)), (0, .ref x), (1, .int (nI a)), (2, .int (nI b)), (4, .int (nI i))]) hx hb d_M_isName_104 rfl hl (by decide) rfl (fun ls hl => ?_)
              refine n_inc (a := i) (lv' := [(4, .int (nI (i + 1))), (3, .int (nI 1)), (0, .ref x), (1, .int (nI a)), (2, .int (nI b))]) hx hb d_M_isName_105 hl (k := 4) rfl (by decide) rfl (fun ls hl => ?_)
              refine lv_goto (tgt := 50) hx hb d_M_isName_108 (by decide) ?_
              have e8 : (letS (T.getD i 0) || (decide (T.getD i 0 = 45) && !decide (T.getD (i - 1) 0 = 45))) = true := by rw [c70, decide_eq_true c82, decide_eq_false c96]; rfl
              rw [show b - i = (b - (i + 1)) + 1 by omega, nmL, c57, if_pos rfl, e8] at hres
              exact ih (i + 1) true c53 (by omega) (by omega) (fun h => by omega) hres ls (lv_sub hl [2, 3, 4, 1, 0] rfl)
set_option maxHeartbeats 4000000 in
set_option maxRecDepth 100000 in
/-- isName(from, to) -/
theorem c_M_isName (l : Launch) (g : gG) (H : Heap) (x : Nat) (ad : Nat → Nat) (F : Nat → Int32) (A : Nat → Nat → Int32) (B : Nat → Nat → Int64) (hm0 : mW g H x ad F A B) (T : List Nat) (hT : ∀ k, k < T.length → A 1 k = nI (T.getD k 0)) (hc : ∀ k, T.getD k 0 < 128) (hT24 : T.length ≤ 24) (a b : Nat) (hab : a ≤ b) (hbT : b ≤ T.length) : Met l y_M_isName (wC y_M_isName b_M_isName 5 (some .boolean)) (rmk 1 0 0 20) (pC g H [.ref x, .int (nI a), .int (nI b)]) (qP H (fun v => v = some (.int (bI (nameM T a b))))) 0 0 no_ := by
  refine mB (by decide) (Nat.le_of_ble_eq_true rfl) ?_
  intro p e s m below meth c ls C0 hH hZ hnm hl
  have C0 : cF g p s m _ meth c b_M_isName 5 "RegistryLogModel" (some .boolean) := C0
  obtain ⟨hx, hb, hml, hown, hts, hr, hlk, hK⟩ := id C0
  subst hH
  have hl : lv_has ls 5 [(0, .ref x), (1, .int (nI a)), (2, .int (nI b))] := hl
  have hm := mS.rf hm0
  refine lv_iload_n hx hb d_M_isName_0 rfl (lv_at hl 2 rfl) ?_
  refine lv_iload_n hx hb d_M_isName_1 rfl (lv_at hl 1 rfl) ?_
  refine n_isub hx hb (by omega) d_M_isName_2 ?_
  refine lv_iconst (v := nI 1) hx hb d_M_isName_3 (by decide) ?_
  refine n_lt (tgt := 45) (a := b - a) (b := 1) hx hb d_M_isName_4 (by decide) (by omega) (by omega) (fun c4 => ?_) (fun c4 => ?_)
  · skip
    refine lv_iconst (v := nI 0) hx hb d_M_isName_45 (by decide) ?_
    refine lv_istore_n (lv' := [(3, .int (nI 0)), (0, .ref x), (1, .int (nI a)), (2, .int (nI b))]) hx hb d_M_isName_46 rfl hl (by decide) rfl (fun ls hl => ?_)
    refine lv_iload_n hx hb d_M_isName_47 rfl (lv_at hl 2 rfl) ?_
    refine lv_istore (lv' := [(4, .int (nI a)), (3, .int (nI 0)), (0, .ref x), (1, .int (nI a)), (2, .int (nI b))]) hx hb d_M_isName_48 hl (by decide) rfl (fun ls hl => ?_)
    rw [nameM, if_neg (by omega)]
    refine lv_iload hx hb d_M_isName_50 (lv_at hl 0 rfl) ?_
    refine lv_iload_n hx hb d_M_isName_52 rfl (lv_at hl 4 rfl) ?_
    refine n_ge (tgt := 111) (a := a) (b := b) hx hb d_M_isName_53 (by decide) (by omega) (by omega) (fun c53 => ?_) (fun c53 => ?_)
    · refine lv_iload_n hx hb d_M_isName_111 rfl (lv_at hl 1 rfl) ?_
      exact W.zret hx hb hr rfl (fun t9 ht hW => ⟨_, rfl, rfl, ht⟩) (fun q h => by cases h) d_M_isName_112 hlk
    · refine lv_iload_n hx hb d_M_isName_56 rfl (lv_at hl 1 rfl) ?_
      refine lv_if_eq (tgt := 111) hx hb d_M_isName_57 (by decide) (fun c57 => ?_) (fun c57 => absurd (by decide) c57)
      refine lv_iload_n hx hb d_M_isName_111 rfl (lv_at hl 1 rfl) ?_
      exact W.zret hx hb hr rfl (fun t9 ht hW => ⟨_, rfl, rfl, ht⟩) (fun q h => by cases h) d_M_isName_112 hlk
  · skip
    refine lv_iload_n hx hb d_M_isName_7 rfl (lv_at hl 2 rfl) ?_
    refine lv_iload_n hx hb d_M_isName_8 rfl (lv_at hl 1 rfl) ?_
    refine n_isub hx hb (by omega) d_M_isName_9 ?_
    refine lv_bipush (v := nI 10) hx hb d_M_isName_10 (by decide) ?_
    refine n_gt (tgt := 45) (a := b - a) (b := 10) hx hb d_M_isName_12 (by decide) (by omega) (by omega) (fun c12 => ?_) (fun c12 => ?_)
    · skip
      refine lv_iconst (v := nI 0) hx hb d_M_isName_45 (by decide) ?_
      refine lv_istore_n (lv' := [(3, .int (nI 0)), (0, .ref x), (1, .int (nI a)), (2, .int (nI b))]) hx hb d_M_isName_46 rfl hl (by decide) rfl (fun ls hl => ?_)
      refine lv_iload_n hx hb d_M_isName_47 rfl (lv_at hl 2 rfl) ?_
      refine lv_istore (lv' := [(4, .int (nI a)), (3, .int (nI 0)), (0, .ref x), (1, .int (nI a)), (2, .int (nI b))]) hx hb d_M_isName_48 hl (by decide) rfl (fun ls hl => ?_)
      rw [nameM, if_neg (by omega)]
      refine lv_iload hx hb d_M_isName_50 (lv_at hl 0 rfl) ?_
      refine lv_iload_n hx hb d_M_isName_52 rfl (lv_at hl 4 rfl) ?_
      refine n_ge (tgt := 111) (a := a) (b := b) hx hb d_M_isName_53 (by decide) (by omega) (by omega) (fun c53 => ?_) (fun c53 => ?_)
      · refine lv_iload_n hx hb d_M_isName_111 rfl (lv_at hl 1 rfl) ?_
        exact W.zret hx hb hr rfl (fun t9 ht hW => ⟨_, rfl, rfl, ht⟩) (fun q h => by cases h) d_M_isName_112 hlk
      · refine lv_iload_n hx hb d_M_isName_56 rfl (lv_at hl 1 rfl) ?_
        refine lv_if_eq (tgt := 111) hx hb d_M_isName_57 (by decide) (fun c57 => ?_) (fun c57 => absurd (by decide) c57)
        refine lv_iload_n hx hb d_M_isName_111 rfl (lv_at hl 1 rfl) ?_
        exact W.zret hx hb hr rfl (fun t9 ht hW => ⟨_, rfl, rfl, ht⟩) (fun q h => by cases h) d_M_isName_112 hlk
    · skip
      refine lv_aload_n hx hb d_M_isName_15 rfl (lv_at hl 0 rfl) ?_
      refine m_get hx hb hts hown hK hm 1 (by decide) (hts (.fieldLink "RegistryLogModel" 7 "RegistryLogModel" "text" "[I") (in_4 (List.mem_of_getElem? (i := 210) rfl) rfl)) rfl (v := .ref (ad 1)) rfl d_M_isName_16 ?_
      refine lv_iload_n hx hb d_M_isName_19 rfl (lv_at hl 1 rfl) ?_
      refine m_ld hx hb hK hm 1 rfl a rfl (show a < 24 from by omega) d_M_isName_20 ?_
      refine W.eq (g2 := F0 m 21 ls [.int (nI (T.getD a 0))]) (by rw [hT a (by omega)]) ?_
      refine aP (rS (As := [.int (nI (T.getD a 0))]) (rest := []) C0 (c_M_isLetter l g _ (T.getD a 0) (by have := hc a; omega)) (m_zK hZ hm) k_M_isName_21 rfl rfl ⟨Nat.le_of_ble_eq_true rfl, Nat.le_of_ble_eq_true rfl⟩ rfl hl.1 rfl (Nat.le_of_ble_eq_true rfl) d_M_isName_21 ⟨Nat.zero_le _, Nat.zero_le _⟩) ?_
      intro v hv; subst hv
      refine W.eq (g2 := F0 m 24 ls [.int (bI (letS (T.getD a 0)))]) rfl ?_
      refine z_eq (tgt := 45) (v := letS (T.getD a 0)) hx hb d_M_isName_24 (by decide) (fun c24 => ?_) (fun c24 => ?_)
      · skip
        refine lv_iconst (v := nI 0) hx hb d_M_isName_45 (by decide) ?_
        refine lv_istore_n (lv' := [(3, .int (nI 0)), (0, .ref x), (1, .int (nI a)), (2, .int (nI b))]) hx hb d_M_isName_46 rfl hl (by decide) rfl (fun ls hl => ?_)
        refine lv_iload_n hx hb d_M_isName_47 rfl (lv_at hl 2 rfl) ?_
        refine lv_istore (lv' := [(4, .int (nI a)), (3, .int (nI 0)), (0, .ref x), (1, .int (nI a)), (2, .int (nI b))]) hx hb d_M_isName_48 hl (by decide) rfl (fun ls hl => ?_)
        rw [nameM, if_neg (by rw [c24]; simp)]
        refine lv_iload hx hb d_M_isName_50 (lv_at hl 0 rfl) ?_
        refine lv_iload_n hx hb d_M_isName_52 rfl (lv_at hl 4 rfl) ?_
        refine n_ge (tgt := 111) (a := a) (b := b) hx hb d_M_isName_53 (by decide) (by omega) (by omega) (fun c53 => ?_) (fun c53 => ?_)
        · refine lv_iload_n hx hb d_M_isName_111 rfl (lv_at hl 1 rfl) ?_
          exact W.zret hx hb hr rfl (fun t9 ht hW => ⟨_, rfl, rfl, ht⟩) (fun q h => by cases h) d_M_isName_112 hlk
        · refine lv_iload_n hx hb d_M_isName_56 rfl (lv_at hl 1 rfl) ?_
          refine lv_if_eq (tgt := 111) hx hb d_M_isName_57 (by decide) (fun c57 => ?_) (fun c57 => absurd (by decide) c57)
          refine lv_iload_n hx hb d_M_isName_111 rfl (lv_at hl 1 rfl) ?_
          exact W.zret hx hb hr rfl (fun t9 ht hW => ⟨_, rfl, rfl, ht⟩) (fun q h => by cases h) d_M_isName_112 hlk
      · skip
        refine lv_aload_n hx hb d_M_isName_27 rfl (lv_at hl 0 rfl) ?_
        refine m_get hx hb hts hown hK hm 1 (by decide) (hts (.fieldLink "RegistryLogModel" 7 "RegistryLogModel" "text" "[I") (in_4 (List.mem_of_getElem? (i := 210) rfl) rfl)) rfl (v := .ref (ad 1)) rfl d_M_isName_28 ?_
        refine lv_iload_n hx hb d_M_isName_31 rfl (lv_at hl 2 rfl) ?_
        refine lv_iconst (v := nI 1) hx hb d_M_isName_32 (by decide) ?_
        refine n_isub hx hb (by omega) d_M_isName_33 ?_
        refine m_ld hx hb hK hm 1 rfl (b - 1) rfl (show b - 1 < 24 from by omega) d_M_isName_34 ?_
        refine W.eq (g2 := F0 m 35 ls [.int (nI (T.getD (b - 1) 0))]) (by rw [hT (b - 1) (by omega)]) ?_
        refine aP (rS (As := [.int (nI (T.getD (b - 1) 0))]) (rest := []) C0 (c_M_isLetter l g _ (T.getD (b - 1) 0) (by have := hc (b - 1); omega)) (m_zK hZ hm) k_M_isName_35 rfl rfl ⟨Nat.le_of_ble_eq_true rfl, Nat.le_of_ble_eq_true rfl⟩ rfl hl.1 rfl (Nat.le_of_ble_eq_true rfl) d_M_isName_35 ⟨Nat.zero_le _, Nat.zero_le _⟩) ?_
        intro v hv; subst hv
        refine W.eq (g2 := F0 m 38 ls [.int (bI (letS (T.getD (b - 1) 0)))]) rfl ?_
        refine z_eq (tgt := 45) (v := letS (T.getD (b - 1) 0)) hx hb d_M_isName_38 (by decide) (fun c38 => ?_) (fun c38 => ?_)
        · skip
          refine lv_iconst (v := nI 0) hx hb d_M_isName_45 (by decide) ?_
          refine lv_istore_n (lv' := [(3, .int (nI 0)), (0, .ref x), (1, .int (nI a)), (2, .int (nI b))]) hx hb d_M_isName_46 rfl hl (by decide) rfl (fun ls hl => ?_)
          refine lv_iload_n hx hb d_M_isName_47 rfl (lv_at hl 2 rfl) ?_
          refine lv_istore (lv' := [(4, .int (nI a)), (3, .int (nI 0)), (0, .ref x), (1, .int (nI a)), (2, .int (nI b))]) hx hb d_M_isName_48 hl (by decide) rfl (fun ls hl => ?_)
          rw [nameM, if_neg (by rw [c38]; simp)]
          refine lv_iload hx hb d_M_isName_50 (lv_at hl 0 rfl) ?_
          refine lv_iload_n hx hb d_M_isName_52 rfl (lv_at hl 4 rfl) ?_
          refine n_ge (tgt := 111) (a := a) (b := b) hx hb d_M_isName_53 (by decide) (by omega) (by omega) (fun c53 => ?_) (fun c53 => ?_)
          · refine lv_iload_n hx hb d_M_isName_111 rfl (lv_at hl 1 rfl) ?_
            exact W.zret hx hb hr rfl (fun t9 ht hW => ⟨_, rfl, rfl, ht⟩) (fun q h => by cases h) d_M_isName_112 hlk
          · refine lv_iload_n hx hb d_M_isName_56 rfl (lv_at hl 1 rfl) ?_
            refine lv_if_eq (tgt := 111) hx hb d_M_isName_57 (by decide) (fun c57 => ?_) (fun c57 => absurd (by decide) c57)
            refine lv_iload_n hx hb d_M_isName_111 rfl (lv_at hl 1 rfl) ?_
            exact W.zret hx hb hr rfl (fun t9 ht hW => ⟨_, rfl, rfl, ht⟩) (fun q h => by cases h) d_M_isName_112 hlk
        · skip
          refine lv_iconst (v := nI 1) hx hb d_M_isName_41 (by decide) ?_
          refine lv_goto (tgt := 46) hx hb d_M_isName_42 (by decide) ?_
          refine lv_istore_n (lv' := [(3, .int (nI 1)), (0, .ref x), (1, .int (nI a)), (2, .int (nI b))]) hx hb d_M_isName_46 rfl hl (by decide) rfl (fun ls hl => ?_)
          refine lv_iload_n hx hb d_M_isName_47 rfl (lv_at hl 2 rfl) ?_
          refine lv_istore (lv' := [(4, .int (nI a)), (3, .int (nI 1)), (0, .ref x), (1, .int (nI a)), (2, .int (nI b))]) hx hb d_M_isName_48 hl (by decide) rfl (fun ls hl => ?_)
          rw [nameM, if_pos ⟨by omega, by omega, c24, c38⟩]
          exact lp_M_isName C0 hZ hm T hT hc hT24 a b hab hbT _ (b + 1 - a) a true hab (by omega) (Nat.le_refl _) (fun _ => c24) rfl ls (lv_sub hl [2, 3, 4, 1, 0] rfl)
set_option maxHeartbeats 4000000 in
set_option maxRecDepth 100000 in
theorem lp_M_write1 {p : Program} {l : Launch} {e : Env} {s : State} {m : MethodId} {args : Array Value} {below : List Frame} {meth : Method} {c : Code} {g : gG} {R : Room} {Q : State → Prop} (C0 : cF g p s m args meth c b_M_write 7 "RegistryLogModel" (some .int)) {x : Nat} {ad : Nat → Nat} {F : Nat → Int32} {A : Nat → Nat → Int32} {B : Nat → Nat → Int64} (k0 p0 a0 b0 : Int32) (r n1 n2 : Nat) (hr9 : r < 120) (h1 : F 32 = nI n1) (h2 : F 33 = nI n2) (hn1 : n1 ≤ 10) (hn2 : n2 ≤ 10) (K : ∀ (H : Heap) (locs : List Loc), mS g s.heap H x ad F (updA A 9 (va_cpy (A 30) (A 9) 0 (10 * r) n1)) B locs → ∀ (ls : Array Slot), lv_has ls 7 [(0, .ref x), (1, .int k0), (2, .int p0), (3, .int a0), (4, .int b0), (5, .int (nI r)), (6, .int (nI n1))] → W p l e R s m args below meth c H locs 0 0 Q (F0 m 114 ls [])) :
    ∀ (n i : Nat) (H : Heap) (locs : List Loc), i ≤ n1 → n1 + 1 ≤ i + n → mS g s.heap H x ad F (updA A 9 (va_cpy (A 30) (A 9) 0 (10 * r) i)) B locs → ∀ (ls : Array Slot), lv_has ls 7 [(0, .ref x), (1, .int k0), (2, .int p0), (3, .int a0), (4, .int b0), (5, .int (nI r)), (6, .int (nI i))] → W p l e R s m args below meth c H locs 0 0 Q (F0 m 79 ls []) := by
  obtain ⟨hx, hb, hml, hown, hts, hr, hlk, hK⟩ := id C0
  intro n
  induction n with
  | zero => intro i H locs h1 h2; exact absurd h2 (by omega)
  | succ n ih =>
    intro i H locs hi hin hm ls hl
    refine lv_iload hx hb d_M_write_79 (lv_at hl 6 rfl) ?_
    refine lv_aload_n hx hb d_M_write_81 rfl (lv_at hl 0 rfl) ?_
    refine m_get hx hb hts hown hK hm 32 (by decide) (hts (.fieldLink "RegistryLogModel" 123 "RegistryLogModel" "oneSize" "I") (in_5 (List.mem_of_getElem? (i := 1) rfl) rfl)) rfl (v := .int (nI n1)) (congrArg (fun z => some (Value.int z)) h1) d_M_write_82 ?_
    refine n_ge (tgt := 114) (a := i) (b := n1) hx hb d_M_write_85 (by decide) (by omega) (by omega) (fun c85 => ?_) (fun c85 => ?_)
    · skip
      have e9 : i = n1 := by omega
      rw [e9] at hm hl
      exact K H locs hm ls (lv_sub hl [0, 1, 2, 3, 4, 5, 6] rfl)
    · skip
      refine lv_aload_n hx hb d_M_write_88 rfl (lv_at hl 0 rfl) ?_
      refine m_get hx hb hts hown hK hm 9 (by decide) (hts (.fieldLink "RegistryLogModel" 31 "RegistryLogModel" "letters" "[I") (in_4 (List.mem_of_getElem? (i := 218) rfl) rfl)) rfl (v := .ref (ad 9)) rfl d_M_write_89 ?_
      refine lv_bipush (v := nI 10) hx hb d_M_write_92 (by decide) ?_
      refine lv_iload hx hb d_M_write_94 (lv_at hl 5 rfl) ?_
      refine n_imul hx hb d_M_write_96 ?_
      refine lv_iload hx hb d_M_write_97 (lv_at hl 6 rfl) ?_
      refine n_iadd hx hb d_M_write_99 ?_
      refine lv_aload_n hx hb d_M_write_100 rfl (lv_at hl 0 rfl) ?_
      refine m_get hx hb hts hown hK hm 30 (by decide) (hts (.fieldLink "RegistryLogModel" 80 "RegistryLogModel" "one" "[I") (in_4 (List.mem_of_getElem? (i := 239) rfl) rfl)) rfl (v := .ref (ad 30)) rfl d_M_write_101 ?_
      refine lv_iload hx hb d_M_write_104 (lv_at hl 6 rfl) ?_
      refine m_ld hx hb hK hm 30 rfl (0 + i) (by rw [Nat.zero_add]) (show 0 + i < 10 from by omega) d_M_write_106 ?_
      refine W.eq (g2 := F0 m 107 ls [.int (A 30 (0 + i)), .int (nI ((10 * r) + i)), .ref (ad 9)]) rfl ?_
      refine m_st hx hb hK hm 9 rfl ((10 * r) + i) rfl (show (10 * r) + i < 1200 from by omega) d_M_write_107 (fun H locs hm => ?_)
      have hm : mS g s.heap H x ad F (updA (updA A 9 (va_cpy (A 30) (A 9) 0 (10 * r) i)) 9 (upd (va_cpy (A 30) (A 9) 0 (10 * r) i) ((10 * r) + i) (A 30 (0 + i)))) B locs := hm
      refine n_inc (a := i) (lv' := [(6, .int (nI (i + 1))), (0, .ref x), (1, .int k0), (2, .int p0), (3, .int a0), (4, .int b0), (5, .int (nI r))]) hx hb d_M_write_108 hl (k := 6) rfl (by decide) rfl (fun ls hl => ?_)
      refine lv_goto (tgt := 79) hx hb d_M_write_111 (by decide) ?_
      rw [updA2, cpy_s] at hm
      exact ih (i + 1) H locs (by omega) (by omega) hm ls (lv_sub hl [1, 2, 3, 4, 5, 6, 0] rfl)
set_option maxHeartbeats 4000000 in
set_option maxRecDepth 100000 in
theorem lp_M_write2 {p : Program} {l : Launch} {e : Env} {s : State} {m : MethodId} {args : Array Value} {below : List Frame} {meth : Method} {c : Code} {g : gG} {R : Room} {Q : State → Prop} (C0 : cF g p s m args meth c b_M_write 7 "RegistryLogModel" (some .int)) {x : Nat} {ad : Nat → Nat} {F : Nat → Int32} {A : Nat → Nat → Int32} {B : Nat → Nat → Int64} (k0 p0 a0 b0 : Int32) (r n1 n2 : Nat) (hr9 : r < 120) (h1 : F 32 = nI n1) (h2 : F 33 = nI n2) (hn1 : n1 ≤ 10) (hn2 : n2 ≤ 10) (K : ∀ (H : Heap) (locs : List Loc), mS g s.heap H x ad F (updA A 10 (va_cpy (A 31) (A 10) 0 (10 * r) n2)) B locs → ∀ (ls : Array Slot), lv_has ls 7 [(0, .ref x), (1, .int k0), (2, .int p0), (3, .int a0), (4, .int b0), (5, .int (nI r)), (6, .int (nI n2))] → W p l e R s m args below meth c H locs 0 0 Q (F0 m 152 ls [])) :
    ∀ (n i : Nat) (H : Heap) (locs : List Loc), i ≤ n2 → n2 + 1 ≤ i + n → mS g s.heap H x ad F (updA A 10 (va_cpy (A 31) (A 10) 0 (10 * r) i)) B locs → ∀ (ls : Array Slot), lv_has ls 7 [(0, .ref x), (1, .int k0), (2, .int p0), (3, .int a0), (4, .int b0), (5, .int (nI r)), (6, .int (nI i))] → W p l e R s m args below meth c H locs 0 0 Q (F0 m 117 ls []) := by
  obtain ⟨hx, hb, hml, hown, hts, hr, hlk, hK⟩ := id C0
  intro n
  induction n with
  | zero => intro i H locs h1 h2; exact absurd h2 (by omega)
  | succ n ih =>
    intro i H locs hi hin hm ls hl
    refine lv_iload hx hb d_M_write_117 (lv_at hl 6 rfl) ?_
    refine lv_aload_n hx hb d_M_write_119 rfl (lv_at hl 0 rfl) ?_
    refine m_get hx hb hts hown hK hm 33 (by decide) (hts (.fieldLink "RegistryLogModel" 126 "RegistryLogModel" "twoSize" "I") (in_5 (List.mem_of_getElem? (i := 2) rfl) rfl)) rfl (v := .int (nI n2)) (congrArg (fun z => some (Value.int z)) h2) d_M_write_120 ?_
    refine n_ge (tgt := 152) (a := i) (b := n2) hx hb d_M_write_123 (by decide) (by omega) (by omega) (fun c123 => ?_) (fun c123 => ?_)
    · skip
      have e9 : i = n2 := by omega
      rw [e9] at hm hl
      exact K H locs hm ls (lv_sub hl [0, 1, 2, 3, 4, 5, 6] rfl)
    · skip
      refine lv_aload_n hx hb d_M_write_126 rfl (lv_at hl 0 rfl) ?_
      refine m_get hx hb hts hown hK hm 10 (by decide) (hts (.fieldLink "RegistryLogModel" 34 "RegistryLogModel" "otherLetters" "[I") (in_4 (List.mem_of_getElem? (i := 219) rfl) rfl)) rfl (v := .ref (ad 10)) rfl d_M_write_127 ?_
      refine lv_bipush (v := nI 10) hx hb d_M_write_130 (by decide) ?_
      refine lv_iload hx hb d_M_write_132 (lv_at hl 5 rfl) ?_
      refine n_imul hx hb d_M_write_134 ?_
      refine lv_iload hx hb d_M_write_135 (lv_at hl 6 rfl) ?_
      refine n_iadd hx hb d_M_write_137 ?_
      refine lv_aload_n hx hb d_M_write_138 rfl (lv_at hl 0 rfl) ?_
      refine m_get hx hb hts hown hK hm 31 (by decide) (hts (.fieldLink "RegistryLogModel" 83 "RegistryLogModel" "two" "[I") (in_5 (List.mem_of_getElem? (i := 0) rfl) rfl)) rfl (v := .ref (ad 31)) rfl d_M_write_139 ?_
      refine lv_iload hx hb d_M_write_142 (lv_at hl 6 rfl) ?_
      refine m_ld hx hb hK hm 31 rfl (0 + i) (by rw [Nat.zero_add]) (show 0 + i < 10 from by omega) d_M_write_144 ?_
      refine W.eq (g2 := F0 m 145 ls [.int (A 31 (0 + i)), .int (nI ((10 * r) + i)), .ref (ad 10)]) rfl ?_
      refine m_st hx hb hK hm 10 rfl ((10 * r) + i) rfl (show (10 * r) + i < 1200 from by omega) d_M_write_145 (fun H locs hm => ?_)
      have hm : mS g s.heap H x ad F (updA (updA A 10 (va_cpy (A 31) (A 10) 0 (10 * r) i)) 10 (upd (va_cpy (A 31) (A 10) 0 (10 * r) i) ((10 * r) + i) (A 31 (0 + i)))) B locs := hm
      refine n_inc (a := i) (lv' := [(6, .int (nI (i + 1))), (0, .ref x), (1, .int k0), (2, .int p0), (3, .int a0), (4, .int b0), (5, .int (nI r))]) hx hb d_M_write_146 hl (k := 6) rfl (by decide) rfl (fun ls hl => ?_)
      refine lv_goto (tgt := 117) hx hb d_M_write_149 (by decide) ?_
      rw [updA2, cpy_s] at hm
      exact ih (i + 1) H locs (by omega) (by omega) hm ls (lv_sub hl [1, 2, 3, 4, 5, 6, 0] rfl)
def wrA (A : Nat → Nat → Int32) (r : Nat) (k0 p0 a0 b0 : Int32) (n1 n2 : Nat) : Nat → Nat → Int32 :=
  updA (updA (updA (updA (updA (updA (updA (updA (updA (updA A 3 (upd (A 3) r k0)) 4 (upd (A 4) r p0)) 5 (upd (A 5) r a0)) 6 (upd (A 6) r b0)) 11 (upd (A 11) (480 + r) b0)) 7 (upd (A 7) r (nI n1))) 8 (upd (A 8) r (nI n2))) 9 (va_cpy (A 30) (A 9) 0 (10 * r) n1)) 10 (va_cpy (A 31) (A 10) 0 (10 * r) n2)) 12 (upd (A 12) 4 (nI (r + 1)))
set_option maxHeartbeats 4000000 in
set_option maxRecDepth 100000 in
/-- write(what, who, a, b) -/
theorem c_M_write (l : Launch) (g : gG) (H : Heap) (x : Nat) (ad : Nat → Nat) (F : Nat → Int32) (A : Nat → Nat → Int32) (B : Nat → Nat → Int64) (hm0 : mW g H x ad F A B) (k0 p0 a0 b0 : Int32) (r n1 n2 : Nat) (hr9 : r < 120) (h1 : F 32 = nI n1) (h2 : F 33 = nI n2) (hn1 : n1 ≤ 10) (hn2 : n2 ≤ 10) (hcn : A 12 4 = nI r) : Met l y_M_write (wC y_M_write b_M_write 7 (some .int)) (rmk 0 0 0 0) (pC g H [.ref x, .int k0, .int p0, .int a0, .int b0]) (qM g H x ad (fun v F1 A1 B1 => v = some (.int (nI r)) ∧ F1 = F ∧ A1 = wrA A r k0 p0 a0 b0 n1 n2 ∧ B1 = B)) 0 0 (mN x ad) := by
  refine mB (by decide) (Nat.le_of_ble_eq_true rfl) ?_
  intro p e s m below meth c ls C0 hH hZ hnm hl
  have C0 : cF g p s m _ meth c b_M_write 7 "RegistryLogModel" (some .int) := C0
  obtain ⟨hx, hb, hml, hown, hts, hr, hlk, hK⟩ := id C0
  subst hH
  have hl : lv_has ls 7 [(0, .ref x), (1, .int k0), (2, .int p0), (3, .int a0), (4, .int b0)] := hl
  have hm := mS.rf hm0
  refine lv_aload_n hx hb d_M_write_0 rfl (lv_at hl 0 rfl) ?_
  refine m_get hx hb hts hown hK hm 12 (by decide) (hts (.fieldLink "RegistryLogModel" 40 "RegistryLogModel" "copied" "[I") (in_4 (List.mem_of_getElem? (i := 221) rfl) rfl)) rfl (v := .ref (ad 12)) rfl d_M_write_1 ?_
  refine lv_iconst (v := nI 4) hx hb d_M_write_4 (by decide) ?_
  refine m_ld hx hb hK hm 12 rfl 4 rfl (show 4 < 5 from by omega) d_M_write_5 ?_
  refine W.eq (g2 := F0 m 6 ls [.int (nI r)]) (by rw [hcn]) ?_
  refine lv_istore (lv' := [(5, .int (nI r)), (0, .ref x), (1, .int k0), (2, .int p0), (3, .int a0), (4, .int b0)]) hx hb d_M_write_6 hl (by decide) rfl (fun ls hl => ?_)
  refine lv_aload_n hx hb d_M_write_8 rfl (lv_at hl 1 rfl) ?_
  refine m_get hx hb hts hown hK hm 3 (by decide) (hts (.fieldLink "RegistryLogModel" 13 "RegistryLogModel" "kind" "[I") (in_4 (List.mem_of_getElem? (i := 212) rfl) rfl)) rfl (v := .ref (ad 3)) rfl d_M_write_9 ?_
  refine lv_iload hx hb d_M_write_12 (lv_at hl 0 rfl) ?_
  refine lv_iload_n hx hb d_M_write_14 rfl (lv_at hl 2 rfl) ?_
  refine m_st hx hb hK hm 3 rfl r rfl (show r < 120 from by omega) d_M_write_15 (fun H locs hm => ?_)
  have hm : mS g s.heap H x ad F (updA A 3 (upd (A 3) r (k0))) B locs := hm
  refine lv_aload_n hx hb d_M_write_16 rfl (lv_at hl 1 rfl) ?_
  refine m_get hx hb hts hown hK hm 4 (by decide) (hts (.fieldLink "RegistryLogModel" 16 "RegistryLogModel" "person" "[I") (in_4 (List.mem_of_getElem? (i := 213) rfl) rfl)) rfl (v := .ref (ad 4)) rfl d_M_write_17 ?_
  refine lv_iload hx hb d_M_write_20 (lv_at hl 0 rfl) ?_
  refine lv_iload_n hx hb d_M_write_22 rfl (lv_at hl 3 rfl) ?_
  refine m_st hx hb hK hm 4 rfl r rfl (show r < 120 from by omega) d_M_write_23 (fun H locs hm => ?_)
  have hm : mS g s.heap H x ad F (updA (updA A 3 (upd (A 3) r (k0))) 4 (upd (A 4) r (p0))) B locs := hm
  refine lv_aload_n hx hb d_M_write_24 rfl (lv_at hl 1 rfl) ?_
  refine m_get hx hb hts hown hK hm 5 (by decide) (hts (.fieldLink "RegistryLogModel" 19 "RegistryLogModel" "first" "[I") (in_4 (List.mem_of_getElem? (i := 214) rfl) rfl)) rfl (v := .ref (ad 5)) rfl d_M_write_25 ?_
  refine lv_iload hx hb d_M_write_28 (lv_at hl 0 rfl) ?_
  refine lv_iload_n hx hb d_M_write_30 rfl (lv_at hl 4 rfl) ?_
  refine m_st hx hb hK hm 5 rfl r rfl (show r < 120 from by omega) d_M_write_31 (fun H locs hm => ?_)
  have hm : mS g s.heap H x ad F (updA (updA (updA A 3 (upd (A 3) r (k0))) 4 (upd (A 4) r (p0))) 5 (upd (A 5) r (a0))) B locs := hm
  refine lv_aload_n hx hb d_M_write_32 rfl (lv_at hl 1 rfl) ?_
  refine m_get hx hb hts hown hK hm 6 (by decide) (hts (.fieldLink "RegistryLogModel" 22 "RegistryLogModel" "flag" "[I") (in_4 (List.mem_of_getElem? (i := 215) rfl) rfl)) rfl (v := .ref (ad 6)) rfl d_M_write_33 ?_
  refine lv_iload hx hb d_M_write_36 (lv_at hl 0 rfl) ?_
  refine lv_iload hx hb d_M_write_38 (lv_at hl 5 rfl) ?_
  refine m_st hx hb hK hm 6 rfl r rfl (show r < 120 from by omega) d_M_write_40 (fun H locs hm => ?_)
  have hm : mS g s.heap H x ad F (updA (updA (updA (updA A 3 (upd (A 3) r (k0))) 4 (upd (A 4) r (p0))) 5 (upd (A 5) r (a0))) 6 (upd (A 6) r (b0))) B locs := hm
  refine lv_aload_n hx hb d_M_write_41 rfl (lv_at hl 1 rfl) ?_
  refine m_get hx hb hts hown hK hm 11 (by decide) (hts (.fieldLink "RegistryLogModel" 37 "RegistryLogModel" "sums" "[I") (in_4 (List.mem_of_getElem? (i := 220) rfl) rfl)) rfl (v := .ref (ad 11)) rfl d_M_write_42 ?_
  refine lv_sipush (v := nI 480) hx hb d_M_write_45 (by decide) ?_
  refine lv_iload hx hb d_M_write_48 (lv_at hl 0 rfl) ?_
  refine n_iadd hx hb d_M_write_50 ?_
  refine lv_iload hx hb d_M_write_51 (lv_at hl 5 rfl) ?_
  refine m_st hx hb hK hm 11 rfl (480 + r) rfl (show 480 + r < 600 from by omega) d_M_write_53 (fun H locs hm => ?_)
  have hm : mS g s.heap H x ad F (updA (updA (updA (updA (updA A 3 (upd (A 3) r (k0))) 4 (upd (A 4) r (p0))) 5 (upd (A 5) r (a0))) 6 (upd (A 6) r (b0))) 11 (upd (A 11) (480 + r) (b0))) B locs := hm
  refine lv_aload_n hx hb d_M_write_54 rfl (lv_at hl 1 rfl) ?_
  refine m_get hx hb hts hown hK hm 7 (by decide) (hts (.fieldLink "RegistryLogModel" 25 "RegistryLogModel" "size" "[I") (in_4 (List.mem_of_getElem? (i := 216) rfl) rfl)) rfl (v := .ref (ad 7)) rfl d_M_write_55 ?_
  refine lv_iload hx hb d_M_write_58 (lv_at hl 0 rfl) ?_
  refine lv_aload_n hx hb d_M_write_60 rfl (lv_at hl 1 rfl) ?_
  refine m_get hx hb hts hown hK hm 32 (by decide) (hts (.fieldLink "RegistryLogModel" 123 "RegistryLogModel" "oneSize" "I") (in_5 (List.mem_of_getElem? (i := 1) rfl) rfl)) rfl (v := .int (nI n1)) (congrArg (fun z => some (Value.int z)) h1) d_M_write_61 ?_
  refine m_st hx hb hK hm 7 rfl r rfl (show r < 120 from by omega) d_M_write_64 (fun H locs hm => ?_)
  have hm : mS g s.heap H x ad F (updA (updA (updA (updA (updA (updA A 3 (upd (A 3) r (k0))) 4 (upd (A 4) r (p0))) 5 (upd (A 5) r (a0))) 6 (upd (A 6) r (b0))) 11 (upd (A 11) (480 + r) (b0))) 7 (upd (A 7) r (nI n1))) B locs := hm
  refine lv_aload_n hx hb d_M_write_65 rfl (lv_at hl 1 rfl) ?_
  refine m_get hx hb hts hown hK hm 8 (by decide) (hts (.fieldLink "RegistryLogModel" 28 "RegistryLogModel" "otherSize" "[I") (in_4 (List.mem_of_getElem? (i := 217) rfl) rfl)) rfl (v := .ref (ad 8)) rfl d_M_write_66 ?_
  refine lv_iload hx hb d_M_write_69 (lv_at hl 0 rfl) ?_
  refine lv_aload_n hx hb d_M_write_71 rfl (lv_at hl 1 rfl) ?_
  refine m_get hx hb hts hown hK hm 33 (by decide) (hts (.fieldLink "RegistryLogModel" 126 "RegistryLogModel" "twoSize" "I") (in_5 (List.mem_of_getElem? (i := 2) rfl) rfl)) rfl (v := .int (nI n2)) (congrArg (fun z => some (Value.int z)) h2) d_M_write_72 ?_
  refine m_st hx hb hK hm 8 rfl r rfl (show r < 120 from by omega) d_M_write_75 (fun H locs hm => ?_)
  have hm : mS g s.heap H x ad F (updA (updA (updA (updA (updA (updA (updA A 3 (upd (A 3) r (k0))) 4 (upd (A 4) r (p0))) 5 (upd (A 5) r (a0))) 6 (upd (A 6) r (b0))) 11 (upd (A 11) (480 + r) (b0))) 7 (upd (A 7) r (nI n1))) 8 (upd (A 8) r (nI n2))) B locs := hm
  refine lv_iconst (v := nI 0) hx hb d_M_write_76 (by decide) ?_
  refine lv_istore (lv' := [(6, .int (nI 0)), (5, .int (nI r)), (0, .ref x), (1, .int k0), (2, .int p0), (3, .int a0), (4, .int b0)]) hx hb d_M_write_77 hl (by decide) rfl (fun ls hl => ?_)
  refine lp_M_write1 C0 (A := (updA (updA (updA (updA (updA (updA (updA A 3 (upd (A 3) r (k0))) 4 (upd (A 4) r (p0))) 5 (upd (A 5) r (a0))) 6 (upd (A 6) r (b0))) 11 (upd (A 11) (480 + r) (b0))) 7 (upd (A 7) r (nI n1))) 8 (upd (A 8) r (nI n2)))) k0 p0 a0 b0 r n1 n2 hr9 h1 h2 hn1 hn2 (fun H locs hm ls hl => ?_) (n1 + 1) 0 H locs (Nat.zero_le _) (by omega) (by rw [cpy_0, updA_id]; exact hm) ls (lv_sub hl [2, 3, 4, 5, 6, 1, 0] rfl)
  have hm : mS g s.heap H x ad F (updA (updA (updA (updA (updA (updA (updA (updA A 3 (upd (A 3) r (k0))) 4 (upd (A 4) r (p0))) 5 (upd (A 5) r (a0))) 6 (upd (A 6) r (b0))) 11 (upd (A 11) (480 + r) (b0))) 7 (upd (A 7) r (nI n1))) 8 (upd (A 8) r (nI n2))) 9 (va_cpy (A 30) (A 9) 0 (10 * r) n1)) B locs := hm
  refine lv_iconst (v := nI 0) hx hb d_M_write_114 (by decide) ?_
  refine lv_istore (lv' := [(6, .int (nI 0)), (0, .ref x), (1, .int k0), (2, .int p0), (3, .int a0), (4, .int b0), (5, .int (nI r))]) hx hb d_M_write_115 hl (by decide) rfl (fun ls hl => ?_)
  refine lp_M_write2 C0 (A := (updA (updA (updA (updA (updA (updA (updA (updA A 3 (upd (A 3) r (k0))) 4 (upd (A 4) r (p0))) 5 (upd (A 5) r (a0))) 6 (upd (A 6) r (b0))) 11 (upd (A 11) (480 + r) (b0))) 7 (upd (A 7) r (nI n1))) 8 (upd (A 8) r (nI n2))) 9 (va_cpy (A 30) (A 9) 0 (10 * r) n1))) k0 p0 a0 b0 r n1 n2 hr9 h1 h2 hn1 hn2 (fun H locs hm ls hl => ?_) (n2 + 1) 0 H locs (Nat.zero_le _) (by omega) (by rw [cpy_0, updA_id]; exact hm) ls (lv_sub hl [1, 2, 3, 4, 5, 6, 0] rfl)
  have hm : mS g s.heap H x ad F (updA (updA (updA (updA (updA (updA (updA (updA (updA A 3 (upd (A 3) r (k0))) 4 (upd (A 4) r (p0))) 5 (upd (A 5) r (a0))) 6 (upd (A 6) r (b0))) 11 (upd (A 11) (480 + r) (b0))) 7 (upd (A 7) r (nI n1))) 8 (upd (A 8) r (nI n2))) 9 (va_cpy (A 30) (A 9) 0 (10 * r) n1)) 10 (va_cpy (A 31) (A 10) 0 (10 * r) n2)) B locs := hm
  refine lv_aload_n hx hb d_M_write_152 rfl (lv_at hl 0 rfl) ?_
  refine m_get hx hb hts hown hK hm 12 (by decide) (hts (.fieldLink "RegistryLogModel" 40 "RegistryLogModel" "copied" "[I") (in_4 (List.mem_of_getElem? (i := 221) rfl) rfl)) rfl (v := .ref (ad 12)) rfl d_M_write_153 ?_
  refine lv_iconst (v := nI 4) hx hb d_M_write_156 (by decide) ?_
  refine lv_dup2_11 hx hb d_M_write_157 rfl rfl ?_
  refine m_ld hx hb hK hm 12 rfl 4 rfl (show 4 < 5 from by omega) d_M_write_158 ?_
  refine W.eq (g2 := F0 m 159 ls [.int (A 12 4), .int (nI 4), .ref (ad 12)]) rfl ?_
  refine W.eq (g2 := F0 m 159 ls [.int (nI r), .int (nI 4), .ref (ad 12)]) (by rw [hcn]) ?_
  refine lv_iconst (v := nI 1) hx hb d_M_write_159 (by decide) ?_
  refine n_iadd hx hb d_M_write_160 ?_
  refine m_st hx hb hK hm 12 rfl 4 rfl (show 4 < 5 from by omega) d_M_write_161 (fun H locs hm => ?_)
  have hm : mS g s.heap H x ad F (updA (updA (updA (updA (updA (updA (updA (updA (updA (updA A 3 (upd (A 3) r (k0))) 4 (upd (A 4) r (p0))) 5 (upd (A 5) r (a0))) 6 (upd (A 6) r (b0))) 11 (upd (A 11) (480 + r) (b0))) 7 (upd (A 7) r (nI n1))) 8 (upd (A 8) r (nI n2))) 9 (va_cpy (A 30) (A 9) 0 (10 * r) n1)) 10 (va_cpy (A 31) (A 10) 0 (10 * r) n2)) 12 (upd (A 12) 4 (nI (r + 1)))) B locs := hm
  refine lv_iload hx hb d_M_write_162 (lv_at hl 5 rfl) ?_
  exact W.iret hx hb hr (fun t9 ht hW => ⟨_, _, _, _, rfl, by rw [ht]; exact ⟨hm.1, hm.2.1, hm.2.2.1, fun _ h => by cases h⟩, ⟨rfl, rfl, rfl, rfl⟩⟩) hm.2.2.2 d_M_write_164 hlk
set_option maxHeartbeats 4000000 in
set_option maxRecDepth 100000 in
theorem lp_M_meet9 {p : Program} {l : Launch} {e : Env} {s : State} {m : MethodId} {args : Array Value} {below : List Frame} {meth : Method} {c : Code} {g : gG} {R : Room} {Q : State → Prop} (C0 : cF g p s m args meth c b_M_meet 6 "RegistryLogModel" (some .int)) {x : Nat} {ad : Nat → Nat} {F : Nat → Int32} {A : Nat → Nat → Int32} {B : Nat → Nat → Int64} (fr n0 ow cn : Nat) (hn0 : n0 ≤ 10) (hfr : fr + n0 ≤ 1200) (hcn : F 27 = nI cn) (hcn2 : cn < 240) (K : ∀ (H : Heap) (locs : List Loc), mS g s.heap H x ad F (updA A 17 (va_cpy (A 9) (A 17) fr (10 * cn) n0)) B locs → ∀ (ls : Array Slot), lv_has ls 6 [(0, .ref x), (1, .ref (ad 9)), (2, .int (nI fr)), (3, .int (nI n0)), (4, .int (nI ow)), (5, .int (nI n0))] → W p l e R s m args below meth c H locs 0 0 Q (F0 m 46 ls [])) :
    ∀ (n i : Nat) (H : Heap) (locs : List Loc), i ≤ n0 → n0 + 1 ≤ i + n → mS g s.heap H x ad F (updA A 17 (va_cpy (A 9) (A 17) fr (10 * cn) i)) B locs → ∀ (ls : Array Slot), lv_has ls 6 [(0, .ref x), (1, .ref (ad 9)), (2, .int (nI fr)), (3, .int (nI n0)), (4, .int (nI ow)), (5, .int (nI i))] → W p l e R s m args below meth c H locs 0 0 Q (F0 m 13 ls []) := by
  obtain ⟨hx, hb, hml, hown, hts, hr, hlk, hK⟩ := id C0
  intro n
  induction n with
  | zero => intro i H locs h1 h2; exact absurd h2 (by omega)
  | succ n ih =>
    intro i H locs hi hin hm ls hl
    refine lv_iload hx hb d_M_meet_13 (lv_at hl 5 rfl) ?_
    refine lv_iload_n hx hb d_M_meet_15 rfl (lv_at hl 3 rfl) ?_
    refine n_ge (tgt := 46) (a := i) (b := n0) hx hb d_M_meet_16 (by decide) (by omega) (by omega) (fun c16 => ?_) (fun c16 => ?_)
    · skip
      have e9 : i = n0 := by omega
      rw [e9] at hm hl
      exact K H locs hm ls (lv_sub hl [0, 1, 2, 3, 4, 5] rfl)
    · skip
      refine lv_aload_n hx hb d_M_meet_19 rfl (lv_at hl 0 rfl) ?_
      refine m_get hx hb hts hown hK hm 17 (by decide) (hts (.fieldLink "RegistryLogModel" 50 "RegistryLogModel" "nameLetters" "[I") (in_4 (List.mem_of_getElem? (i := 226) rfl) rfl)) rfl (v := .ref (ad 17)) rfl d_M_meet_20 ?_
      refine lv_bipush (v := nI 10) hx hb d_M_meet_23 (by decide) ?_
      refine lv_aload_n hx hb d_M_meet_25 rfl (lv_at hl 0 rfl) ?_
      refine m_get hx hb hts hown hK hm 27 (by decide) (hts (.fieldLink "RegistryLogModel" 133 "RegistryLogModel" "names" "I") (in_4 (List.mem_of_getElem? (i := 236) rfl) rfl)) rfl (v := .int (nI cn)) (congrArg (fun z => some (Value.int z)) hcn) d_M_meet_26 ?_
      refine n_imul hx hb d_M_meet_29 ?_
      refine lv_iload hx hb d_M_meet_30 (lv_at hl 5 rfl) ?_
      refine n_iadd hx hb d_M_meet_32 ?_
      refine lv_aload_n hx hb d_M_meet_33 rfl (lv_at hl 1 rfl) ?_
      refine lv_iload_n hx hb d_M_meet_34 rfl (lv_at hl 2 rfl) ?_
      refine lv_iload hx hb d_M_meet_35 (lv_at hl 5 rfl) ?_
      refine n_iadd hx hb d_M_meet_37 ?_
      refine m_ld hx hb hK hm 9 rfl (fr + i) rfl (show fr + i < 1200 from by omega) d_M_meet_38 ?_
      refine W.eq (g2 := F0 m 39 ls [.int (A 9 (fr + i)), .int (nI ((10 * cn) + i)), .ref (ad 17)]) rfl ?_
      refine m_st hx hb hK hm 17 rfl ((10 * cn) + i) rfl (show (10 * cn) + i < 2400 from by omega) d_M_meet_39 (fun H locs hm => ?_)
      have hm : mS g s.heap H x ad F (updA (updA A 17 (va_cpy (A 9) (A 17) fr (10 * cn) i)) 17 (upd (va_cpy (A 9) (A 17) fr (10 * cn) i) ((10 * cn) + i) (A 9 (fr + i)))) B locs := hm
      refine n_inc (a := i) (lv' := [(5, .int (nI (i + 1))), (0, .ref x), (1, .ref (ad 9)), (2, .int (nI fr)), (3, .int (nI n0)), (4, .int (nI ow))]) hx hb d_M_meet_40 hl (k := 5) rfl (by decide) rfl (fun ls hl => ?_)
      refine lv_goto (tgt := 13) hx hb d_M_meet_43 (by decide) ?_
      rw [updA2, cpy_s] at hm
      exact ih (i + 1) H locs (by omega) (by omega) hm ls (lv_sub hl [1, 2, 3, 4, 5, 0] rfl)
def meA9 (A : Nat → Nat → Int32) (fr n0 ow cn : Nat) : Nat → Nat → Int32 :=
  updA (updA (updA (updA A 18 (upd (A 18) cn (nI n0))) 17 (va_cpy (A 9) (A 17) fr (10 * cn) n0)) 19 (upd (A 19) cn (nI 1))) 20 (upd (A 20) cn (nI ow))
set_option maxHeartbeats 4000000 in
set_option maxRecDepth 100000 in
/-- meet(row, from, n, owner) -/
theorem c_M_meet9 (l : Launch) (g : gG) (H : Heap) (x : Nat) (ad : Nat → Nat) (F : Nat → Int32) (A : Nat → Nat → Int32) (B : Nat → Nat → Int64) (hm0 : mW g H x ad F A B) (fr n0 ow cn : Nat) (hn0 : n0 ≤ 10) (hfr : fr + n0 ≤ 1200) (hcn : F 27 = nI cn) (hcn2 : cn < 240) : Met l y_M_meet (wC y_M_meet b_M_meet 6 (some .int)) (rmk 0 0 0 0) (pC g H [.ref x, .ref (ad 9), .int (nI fr), .int (nI n0), .int (nI ow)]) (qM g H x ad (fun v F1 A1 B1 => v = some (.int (nI cn)) ∧ F1 = upd F 27 (nI (cn + 1)) ∧ A1 = meA9 A fr n0 ow cn ∧ B1 = B)) 0 0 (mN x ad) := by
  refine mB (by decide) (Nat.le_of_ble_eq_true rfl) ?_
  intro p e s m below meth c ls C0 hH hZ hnm hl
  have C0 : cF g p s m _ meth c b_M_meet 6 "RegistryLogModel" (some .int) := C0
  obtain ⟨hx, hb, hml, hown, hts, hr, hlk, hK⟩ := id C0
  subst hH
  have hl : lv_has ls 6 [(0, .ref x), (1, .ref (ad 9)), (2, .int (nI fr)), (3, .int (nI n0)), (4, .int (nI ow))] := hl
  have hm := mS.rf hm0
  refine lv_aload_n hx hb d_M_meet_0 rfl (lv_at hl 0 rfl) ?_
  refine m_get hx hb hts hown hK hm 18 (by decide) (hts (.fieldLink "RegistryLogModel" 53 "RegistryLogModel" "nameSize" "[I") (in_4 (List.mem_of_getElem? (i := 227) rfl) rfl)) rfl (v := .ref (ad 18)) rfl d_M_meet_1 ?_
  refine lv_aload_n hx hb d_M_meet_4 rfl (lv_at hl 0 rfl) ?_
  refine m_get hx hb hts hown hK hm 27 (by decide) (hts (.fieldLink "RegistryLogModel" 133 "RegistryLogModel" "names" "I") (in_4 (List.mem_of_getElem? (i := 236) rfl) rfl)) rfl (v := .int (nI cn)) (congrArg (fun z => some (Value.int z)) hcn) d_M_meet_5 ?_
  refine lv_iload_n hx hb d_M_meet_8 rfl (lv_at hl 3 rfl) ?_
  refine m_st hx hb hK hm 18 rfl cn rfl (show cn < 240 from by omega) d_M_meet_9 (fun H locs hm => ?_)
  have hm : mS g s.heap H x ad F (updA A 18 (upd (A 18) cn (nI n0))) B locs := hm
  refine lv_iconst (v := nI 0) hx hb d_M_meet_10 (by decide) ?_
  refine lv_istore (lv' := [(5, .int (nI 0)), (0, .ref x), (1, .ref (ad 9)), (2, .int (nI fr)), (3, .int (nI n0)), (4, .int (nI ow))]) hx hb d_M_meet_11 hl (by decide) rfl (fun ls hl => ?_)
  refine lp_M_meet9 C0 (A := (updA A 18 (upd (A 18) cn (nI n0)))) fr n0 ow cn hn0 hfr hcn hcn2 (fun H locs hm ls hl => ?_) (n0 + 1) 0 H locs (Nat.zero_le _) (by omega) (by rw [cpy_0, updA_id]; exact hm) ls (lv_sub hl [1, 2, 3, 4, 5, 0] rfl)
  have hm : mS g s.heap H x ad F (updA (updA A 18 (upd (A 18) cn (nI n0))) 17 (va_cpy (A 9) (A 17) fr (10 * cn) n0)) B locs := hm
  refine lv_aload_n hx hb d_M_meet_46 rfl (lv_at hl 0 rfl) ?_
  refine m_get hx hb hts hown hK hm 19 (by decide) (hts (.fieldLink "RegistryLogModel" 56 "RegistryLogModel" "nameState" "[I") (in_4 (List.mem_of_getElem? (i := 228) rfl) rfl)) rfl (v := .ref (ad 19)) rfl d_M_meet_47 ?_
  refine lv_aload_n hx hb d_M_meet_50 rfl (lv_at hl 0 rfl) ?_
  refine m_get hx hb hts hown hK hm 27 (by decide) (hts (.fieldLink "RegistryLogModel" 133 "RegistryLogModel" "names" "I") (in_4 (List.mem_of_getElem? (i := 236) rfl) rfl)) rfl (v := .int (nI cn)) (congrArg (fun z => some (Value.int z)) hcn) d_M_meet_51 ?_
  refine lv_iconst (v := nI 1) hx hb d_M_meet_54 (by decide) ?_
  refine m_st hx hb hK hm 19 rfl cn rfl (show cn < 240 from by omega) d_M_meet_55 (fun H locs hm => ?_)
  have hm : mS g s.heap H x ad F (updA (updA (updA A 18 (upd (A 18) cn (nI n0))) 17 (va_cpy (A 9) (A 17) fr (10 * cn) n0)) 19 (upd (A 19) cn (nI 1))) B locs := hm
  refine lv_aload_n hx hb d_M_meet_56 rfl (lv_at hl 0 rfl) ?_
  refine m_get hx hb hts hown hK hm 20 (by decide) (hts (.fieldLink "RegistryLogModel" 59 "RegistryLogModel" "nameOf" "[I") (in_4 (List.mem_of_getElem? (i := 229) rfl) rfl)) rfl (v := .ref (ad 20)) rfl d_M_meet_57 ?_
  refine lv_aload_n hx hb d_M_meet_60 rfl (lv_at hl 0 rfl) ?_
  refine m_get hx hb hts hown hK hm 27 (by decide) (hts (.fieldLink "RegistryLogModel" 133 "RegistryLogModel" "names" "I") (in_4 (List.mem_of_getElem? (i := 236) rfl) rfl)) rfl (v := .int (nI cn)) (congrArg (fun z => some (Value.int z)) hcn) d_M_meet_61 ?_
  refine lv_iload hx hb d_M_meet_64 (lv_at hl 4 rfl) ?_
  refine m_st hx hb hK hm 20 rfl cn rfl (show cn < 240 from by omega) d_M_meet_66 (fun H locs hm => ?_)
  have hm : mS g s.heap H x ad F (updA (updA (updA (updA A 18 (upd (A 18) cn (nI n0))) 17 (va_cpy (A 9) (A 17) fr (10 * cn) n0)) 19 (upd (A 19) cn (nI 1))) 20 (upd (A 20) cn (nI ow))) B locs := hm
  refine lv_aload_n hx hb d_M_meet_67 rfl (lv_at hl 0 rfl) ?_
  refine lv_dup hx hb d_M_meet_68 rfl ?_
  refine m_get hx hb hts hown hK hm 27 (by decide) (hts (.fieldLink "RegistryLogModel" 133 "RegistryLogModel" "names" "I") (in_4 (List.mem_of_getElem? (i := 236) rfl) rfl)) rfl (v := .int (nI cn)) (congrArg (fun z => some (Value.int z)) hcn) d_M_meet_69 ?_
  refine lv_iconst (v := nI 1) hx hb d_M_meet_72 (by decide) ?_
  refine n_iadd hx hb d_M_meet_73 ?_
  refine m_put hx hb hts hown hK hm 27 (by decide) (hts (.fieldLink "RegistryLogModel" 133 "RegistryLogModel" "names" "I") (in_4 (List.mem_of_getElem? (i := 236) rfl) rfl)) rfl rfl (v := nI (cn + 1)) rfl rfl rfl rfl d_M_meet_74 (fun H locs hm => ?_)
  refine lv_aload_n hx hb d_M_meet_77 rfl (lv_at hl 0 rfl) ?_
  refine m_get hx hb hts hown hK hm 27 (by decide) (hts (.fieldLink "RegistryLogModel" 133 "RegistryLogModel" "names" "I") (in_4 (List.mem_of_getElem? (i := 236) rfl) rfl)) rfl (v := .int (nI (cn + 1))) rfl d_M_meet_78 ?_
  refine lv_iconst (v := nI 1) hx hb d_M_meet_81 (by decide) ?_
  refine n_isub hx hb (by omega) d_M_meet_82 ?_
  exact W.iret hx hb hr (fun t9 ht hW => ⟨_, _, _, _, rfl, by rw [ht]; exact ⟨hm.1, hm.2.1, hm.2.2.1, fun _ h => by cases h⟩, ⟨by rw [Nat.add_sub_cancel], rfl, rfl, rfl⟩⟩) hm.2.2.2 d_M_meet_83 hlk
set_option maxHeartbeats 4000000 in
set_option maxRecDepth 100000 in
theorem lp_M_meet10 {p : Program} {l : Launch} {e : Env} {s : State} {m : MethodId} {args : Array Value} {below : List Frame} {meth : Method} {c : Code} {g : gG} {R : Room} {Q : State → Prop} (C0 : cF g p s m args meth c b_M_meet 6 "RegistryLogModel" (some .int)) {x : Nat} {ad : Nat → Nat} {F : Nat → Int32} {A : Nat → Nat → Int32} {B : Nat → Nat → Int64} (fr n0 ow cn : Nat) (hn0 : n0 ≤ 10) (hfr : fr + n0 ≤ 1200) (hcn : F 27 = nI cn) (hcn2 : cn < 240) (K : ∀ (H : Heap) (locs : List Loc), mS g s.heap H x ad F (updA A 17 (va_cpy (A 10) (A 17) fr (10 * cn) n0)) B locs → ∀ (ls : Array Slot), lv_has ls 6 [(0, .ref x), (1, .ref (ad 10)), (2, .int (nI fr)), (3, .int (nI n0)), (4, .int (nI ow)), (5, .int (nI n0))] → W p l e R s m args below meth c H locs 0 0 Q (F0 m 46 ls [])) :
    ∀ (n i : Nat) (H : Heap) (locs : List Loc), i ≤ n0 → n0 + 1 ≤ i + n → mS g s.heap H x ad F (updA A 17 (va_cpy (A 10) (A 17) fr (10 * cn) i)) B locs → ∀ (ls : Array Slot), lv_has ls 6 [(0, .ref x), (1, .ref (ad 10)), (2, .int (nI fr)), (3, .int (nI n0)), (4, .int (nI ow)), (5, .int (nI i))] → W p l e R s m args below meth c H locs 0 0 Q (F0 m 13 ls []) := by
  obtain ⟨hx, hb, hml, hown, hts, hr, hlk, hK⟩ := id C0
  intro n
  induction n with
  | zero => intro i H locs h1 h2; exact absurd h2 (by omega)
  | succ n ih =>
    intro i H locs hi hin hm ls hl
    refine lv_iload hx hb d_M_meet_13 (lv_at hl 5 rfl) ?_
    refine lv_iload_n hx hb d_M_meet_15 rfl (lv_at hl 3 rfl) ?_
    refine n_ge (tgt := 46) (a := i) (b := n0) hx hb d_M_meet_16 (by decide) (by omega) (by omega) (fun c16 => ?_) (fun c16 => ?_)
    · skip
      have e9 : i = n0 := by omega
      rw [e9] at hm hl
      exact K H locs hm ls (lv_sub hl [0, 1, 2, 3, 4, 5] rfl)
    · skip
      refine lv_aload_n hx hb d_M_meet_19 rfl (lv_at hl 0 rfl) ?_
      refine m_get hx hb hts hown hK hm 17 (by decide) (hts (.fieldLink "RegistryLogModel" 50 "RegistryLogModel" "nameLetters" "[I") (in_4 (List.mem_of_getElem? (i := 226) rfl) rfl)) rfl (v := .ref (ad 17)) rfl d_M_meet_20 ?_
      refine lv_bipush (v := nI 10) hx hb d_M_meet_23 (by decide) ?_
      refine lv_aload_n hx hb d_M_meet_25 rfl (lv_at hl 0 rfl) ?_
      refine m_get hx hb hts hown hK hm 27 (by decide) (hts (.fieldLink "RegistryLogModel" 133 "RegistryLogModel" "names" "I") (in_4 (List.mem_of_getElem? (i := 236) rfl) rfl)) rfl (v := .int (nI cn)) (congrArg (fun z => some (Value.int z)) hcn) d_M_meet_26 ?_
      refine n_imul hx hb d_M_meet_29 ?_
      refine lv_iload hx hb d_M_meet_30 (lv_at hl 5 rfl) ?_
      refine n_iadd hx hb d_M_meet_32 ?_
      refine lv_aload_n hx hb d_M_meet_33 rfl (lv_at hl 1 rfl) ?_
      refine lv_iload_n hx hb d_M_meet_34 rfl (lv_at hl 2 rfl) ?_
      refine lv_iload hx hb d_M_meet_35 (lv_at hl 5 rfl) ?_
      refine n_iadd hx hb d_M_meet_37 ?_
      refine m_ld hx hb hK hm 10 rfl (fr + i) rfl (show fr + i < 1200 from by omega) d_M_meet_38 ?_
      refine W.eq (g2 := F0 m 39 ls [.int (A 10 (fr + i)), .int (nI ((10 * cn) + i)), .ref (ad 17)]) rfl ?_
      refine m_st hx hb hK hm 17 rfl ((10 * cn) + i) rfl (show (10 * cn) + i < 2400 from by omega) d_M_meet_39 (fun H locs hm => ?_)
      have hm : mS g s.heap H x ad F (updA (updA A 17 (va_cpy (A 10) (A 17) fr (10 * cn) i)) 17 (upd (va_cpy (A 10) (A 17) fr (10 * cn) i) ((10 * cn) + i) (A 10 (fr + i)))) B locs := hm
      refine n_inc (a := i) (lv' := [(5, .int (nI (i + 1))), (0, .ref x), (1, .ref (ad 10)), (2, .int (nI fr)), (3, .int (nI n0)), (4, .int (nI ow))]) hx hb d_M_meet_40 hl (k := 5) rfl (by decide) rfl (fun ls hl => ?_)
      refine lv_goto (tgt := 13) hx hb d_M_meet_43 (by decide) ?_
      rw [updA2, cpy_s] at hm
      exact ih (i + 1) H locs (by omega) (by omega) hm ls (lv_sub hl [1, 2, 3, 4, 5, 0] rfl)
def meA10 (A : Nat → Nat → Int32) (fr n0 ow cn : Nat) : Nat → Nat → Int32 :=
  updA (updA (updA (updA A 18 (upd (A 18) cn (nI n0))) 17 (va_cpy (A 10) (A 17) fr (10 * cn) n0)) 19 (upd (A 19) cn (nI 1))) 20 (upd (A 20) cn (nI ow))
set_option maxHeartbeats 4000000 in
set_option maxRecDepth 100000 in
/-- meet(row, from, n, owner) -/
theorem c_M_meet10 (l : Launch) (g : gG) (H : Heap) (x : Nat) (ad : Nat → Nat) (F : Nat → Int32) (A : Nat → Nat → Int32) (B : Nat → Nat → Int64) (hm0 : mW g H x ad F A B) (fr n0 ow cn : Nat) (hn0 : n0 ≤ 10) (hfr : fr + n0 ≤ 1200) (hcn : F 27 = nI cn) (hcn2 : cn < 240) : Met l y_M_meet (wC y_M_meet b_M_meet 6 (some .int)) (rmk 0 0 0 0) (pC g H [.ref x, .ref (ad 10), .int (nI fr), .int (nI n0), .int (nI ow)]) (qM g H x ad (fun v F1 A1 B1 => v = some (.int (nI cn)) ∧ F1 = upd F 27 (nI (cn + 1)) ∧ A1 = meA10 A fr n0 ow cn ∧ B1 = B)) 0 0 (mN x ad) := by
  refine mB (by decide) (Nat.le_of_ble_eq_true rfl) ?_
  intro p e s m below meth c ls C0 hH hZ hnm hl
  have C0 : cF g p s m _ meth c b_M_meet 6 "RegistryLogModel" (some .int) := C0
  obtain ⟨hx, hb, hml, hown, hts, hr, hlk, hK⟩ := id C0
  subst hH
  have hl : lv_has ls 6 [(0, .ref x), (1, .ref (ad 10)), (2, .int (nI fr)), (3, .int (nI n0)), (4, .int (nI ow))] := hl
  have hm := mS.rf hm0
  refine lv_aload_n hx hb d_M_meet_0 rfl (lv_at hl 0 rfl) ?_
  refine m_get hx hb hts hown hK hm 18 (by decide) (hts (.fieldLink "RegistryLogModel" 53 "RegistryLogModel" "nameSize" "[I") (in_4 (List.mem_of_getElem? (i := 227) rfl) rfl)) rfl (v := .ref (ad 18)) rfl d_M_meet_1 ?_
  refine lv_aload_n hx hb d_M_meet_4 rfl (lv_at hl 0 rfl) ?_
  refine m_get hx hb hts hown hK hm 27 (by decide) (hts (.fieldLink "RegistryLogModel" 133 "RegistryLogModel" "names" "I") (in_4 (List.mem_of_getElem? (i := 236) rfl) rfl)) rfl (v := .int (nI cn)) (congrArg (fun z => some (Value.int z)) hcn) d_M_meet_5 ?_
  refine lv_iload_n hx hb d_M_meet_8 rfl (lv_at hl 3 rfl) ?_
  refine m_st hx hb hK hm 18 rfl cn rfl (show cn < 240 from by omega) d_M_meet_9 (fun H locs hm => ?_)
  have hm : mS g s.heap H x ad F (updA A 18 (upd (A 18) cn (nI n0))) B locs := hm
  refine lv_iconst (v := nI 0) hx hb d_M_meet_10 (by decide) ?_
  refine lv_istore (lv' := [(5, .int (nI 0)), (0, .ref x), (1, .ref (ad 10)), (2, .int (nI fr)), (3, .int (nI n0)), (4, .int (nI ow))]) hx hb d_M_meet_11 hl (by decide) rfl (fun ls hl => ?_)
  refine lp_M_meet10 C0 (A := (updA A 18 (upd (A 18) cn (nI n0)))) fr n0 ow cn hn0 hfr hcn hcn2 (fun H locs hm ls hl => ?_) (n0 + 1) 0 H locs (Nat.zero_le _) (by omega) (by rw [cpy_0, updA_id]; exact hm) ls (lv_sub hl [1, 2, 3, 4, 5, 0] rfl)
  have hm : mS g s.heap H x ad F (updA (updA A 18 (upd (A 18) cn (nI n0))) 17 (va_cpy (A 10) (A 17) fr (10 * cn) n0)) B locs := hm
  refine lv_aload_n hx hb d_M_meet_46 rfl (lv_at hl 0 rfl) ?_
  refine m_get hx hb hts hown hK hm 19 (by decide) (hts (.fieldLink "RegistryLogModel" 56 "RegistryLogModel" "nameState" "[I") (in_4 (List.mem_of_getElem? (i := 228) rfl) rfl)) rfl (v := .ref (ad 19)) rfl d_M_meet_47 ?_
  refine lv_aload_n hx hb d_M_meet_50 rfl (lv_at hl 0 rfl) ?_
  refine m_get hx hb hts hown hK hm 27 (by decide) (hts (.fieldLink "RegistryLogModel" 133 "RegistryLogModel" "names" "I") (in_4 (List.mem_of_getElem? (i := 236) rfl) rfl)) rfl (v := .int (nI cn)) (congrArg (fun z => some (Value.int z)) hcn) d_M_meet_51 ?_
  refine lv_iconst (v := nI 1) hx hb d_M_meet_54 (by decide) ?_
  refine m_st hx hb hK hm 19 rfl cn rfl (show cn < 240 from by omega) d_M_meet_55 (fun H locs hm => ?_)
  have hm : mS g s.heap H x ad F (updA (updA (updA A 18 (upd (A 18) cn (nI n0))) 17 (va_cpy (A 10) (A 17) fr (10 * cn) n0)) 19 (upd (A 19) cn (nI 1))) B locs := hm
  refine lv_aload_n hx hb d_M_meet_56 rfl (lv_at hl 0 rfl) ?_
  refine m_get hx hb hts hown hK hm 20 (by decide) (hts (.fieldLink "RegistryLogModel" 59 "RegistryLogModel" "nameOf" "[I") (in_4 (List.mem_of_getElem? (i := 229) rfl) rfl)) rfl (v := .ref (ad 20)) rfl d_M_meet_57 ?_
  refine lv_aload_n hx hb d_M_meet_60 rfl (lv_at hl 0 rfl) ?_
  refine m_get hx hb hts hown hK hm 27 (by decide) (hts (.fieldLink "RegistryLogModel" 133 "RegistryLogModel" "names" "I") (in_4 (List.mem_of_getElem? (i := 236) rfl) rfl)) rfl (v := .int (nI cn)) (congrArg (fun z => some (Value.int z)) hcn) d_M_meet_61 ?_
  refine lv_iload hx hb d_M_meet_64 (lv_at hl 4 rfl) ?_
  refine m_st hx hb hK hm 20 rfl cn rfl (show cn < 240 from by omega) d_M_meet_66 (fun H locs hm => ?_)
  have hm : mS g s.heap H x ad F (updA (updA (updA (updA A 18 (upd (A 18) cn (nI n0))) 17 (va_cpy (A 10) (A 17) fr (10 * cn) n0)) 19 (upd (A 19) cn (nI 1))) 20 (upd (A 20) cn (nI ow))) B locs := hm
  refine lv_aload_n hx hb d_M_meet_67 rfl (lv_at hl 0 rfl) ?_
  refine lv_dup hx hb d_M_meet_68 rfl ?_
  refine m_get hx hb hts hown hK hm 27 (by decide) (hts (.fieldLink "RegistryLogModel" 133 "RegistryLogModel" "names" "I") (in_4 (List.mem_of_getElem? (i := 236) rfl) rfl)) rfl (v := .int (nI cn)) (congrArg (fun z => some (Value.int z)) hcn) d_M_meet_69 ?_
  refine lv_iconst (v := nI 1) hx hb d_M_meet_72 (by decide) ?_
  refine n_iadd hx hb d_M_meet_73 ?_
  refine m_put hx hb hts hown hK hm 27 (by decide) (hts (.fieldLink "RegistryLogModel" 133 "RegistryLogModel" "names" "I") (in_4 (List.mem_of_getElem? (i := 236) rfl) rfl)) rfl rfl (v := nI (cn + 1)) rfl rfl rfl rfl d_M_meet_74 (fun H locs hm => ?_)
  refine lv_aload_n hx hb d_M_meet_77 rfl (lv_at hl 0 rfl) ?_
  refine m_get hx hb hts hown hK hm 27 (by decide) (hts (.fieldLink "RegistryLogModel" 133 "RegistryLogModel" "names" "I") (in_4 (List.mem_of_getElem? (i := 236) rfl) rfl)) rfl (v := .int (nI (cn + 1))) rfl d_M_meet_78 ?_
  refine lv_iconst (v := nI 1) hx hb d_M_meet_81 (by decide) ?_
  refine n_isub hx hb (by omega) d_M_meet_82 ?_
  exact W.iret hx hb hr (fun t9 ht hW => ⟨_, _, _, _, rfl, by rw [ht]; exact ⟨hm.1, hm.2.1, hm.2.2.1, fun _ h => by cases h⟩, ⟨by rw [Nat.add_sub_cancel], rfl, rfl, rfl⟩⟩) hm.2.2.2 d_M_meet_83 hlk
end
section
theorem fo_s {t : List Nat} {i : Nat} (h : i < t.length) : foldT (t.take (i + 1)) = if t.getD i 0 = 45 then foldT (t.take i) else foldT (t.take i) ++ [t.getD i 0] := by
  have e : t.take (i + 1) = t.take i ++ [t.getD i 0] := by
    rw [List.take_add_one, List.getD_eq_getElem?_getD, List.getElem?_eq_getElem h]; rfl
  rw [e, foldT, foldT, List.filter_append]
  by_cases q : t.getD i 0 = 45
  · rw [if_pos q, q]; simp
  · rw [if_neg q]
    congr 1
    exact List.filter_eq_self.mpr (fun c hc => by rw [List.mem_singleton] at hc; subst hc; simp only [Bool.not_eq_true', beq_eq_false_iff_ne, ne_eq]; exact q)
theorem fo_le (t : List Nat) (i : Nat) : (foldT (t.take i)).length ≤ i := Nat.le_trans (List.length_filter_le _ _) (by rw [List.length_take]; omega)
theorem fo_le2 (t : List Nat) : (foldT t).length ≤ t.length := List.length_filter_le _ _
theorem ap_lt {a : List Nat} {c q : Nat} (h : q < a.length) : (a ++ [c]).getD q 0 = a.getD q 0 := by
  rw [List.getD_eq_getElem?_getD, List.getD_eq_getElem?_getD, List.getElem?_append_left h]
theorem ap_eq {a : List Nat} {c : Nat} : (a ++ [c]).getD a.length 0 = c := by
  rw [List.getD_eq_getElem?_getD, List.getElem?_append_right (Nat.le_refl _), Nat.sub_self]; rfl
set_option maxHeartbeats 4000000 in
set_option maxRecDepth 100000 in
theorem lp_M_fold30 {p : Program} {l : Launch} {e : Env} {s : State} {m : MethodId} {args : Array Value} {below : List Frame} {meth : Method} {c : Code} {g : gG} (C0 : cF g p s m args meth c b_M_fold 6 "RegistryLogModel" (some .int)) {x : Nat} {ad : Nat → Nat} {F : Nat → Int32} {A : Nat → Nat → Int32} {B : Nat → Nat → Int64} (fr : Nat) (t : List Nat) (ht : t.length ≤ 10) (hfr : fr + t.length ≤ 10) (htx : txt A 30 fr t) (hc : ∀ k, t.getD k 0 < 128) :
    ∀ (n i : Nat) (f : Nat → Int32) (H : Heap) (locs : List Loc), i ≤ t.length → t.length + 1 ≤ i + n → mS g s.heap H x ad F (updA A 34 f) B locs → (∀ q, q < (foldT (t.take i)).length → f q = nI ((foldT (t.take i)).getD q 0)) → ∀ (ls : Array Slot), lv_has ls 6 [(0, .ref (ad 30)), (1, .int (nI fr)), (2, .int (nI t.length)), (3, .ref (ad 34)), (4, .int (nI ((foldT (t.take i)).length))), (5, .int (nI i))] → W p l e (rmk 0 0 0 0) s m args below meth c H locs 0 0 (MQ below (qM g s.heap x ad (fun v F1 A1 B1 => v = some (.int (nI (foldT t).length)) ∧ F1 = F ∧ (∃ f, A1 = updA A 34 f ∧ ∀ q, q < (foldT t).length → f q = nI ((foldT t).getD q 0)) ∧ B1 = B)) args s 0 0 (mN x ad)) (F0 m 6 ls []) := by
  obtain ⟨hx, hb, hml, hown, hts, hr, hlk, hK⟩ := id C0
  intro n
  induction n with
  | zero => intro i f H locs h1 h2; exact absurd h2 (by omega)
  | succ n ih =>
    intro i f H locs hi hin hm hf ls hl
    have hle := fo_le t i
    have hci := hc i
    refine lv_iload hx hb d_M_fold_6 (lv_at hl 5 rfl) ?_
    refine lv_iload_n hx hb d_M_fold_8 rfl (lv_at hl 2 rfl) ?_
    refine n_ge (tgt := 59) (a := i) (b := t.length) hx hb d_M_fold_9 (by decide) (by omega) (by omega) (fun c9 => ?_) (fun c9 => ?_)
    · skip
      refine lv_iload hx hb d_M_fold_59 (lv_at hl 4 rfl) ?_
      have e6 : t.take i = t := List.take_of_length_le (by omega)
      rw [e6] at hf
      exact W.iret hx hb hr (fun t9 ht hW => ⟨_, _, _, _, rfl, by rw [ht]; exact ⟨hm.1, hm.2.1, hm.2.2.1, fun _ h => by cases h⟩, ⟨by rw [e6], rfl, ⟨_, rfl, hf⟩, rfl⟩⟩) hm.2.2.2 d_M_fold_61 hlk
    · skip
      refine lv_aload_n hx hb d_M_fold_12 rfl (lv_at hl 3 rfl) ?_
      refine lv_iload hx hb d_M_fold_13 (lv_at hl 4 rfl) ?_
      refine lv_aload_n hx hb d_M_fold_15 rfl (lv_at hl 0 rfl) ?_
      refine lv_iload_n hx hb d_M_fold_16 rfl (lv_at hl 1 rfl) ?_
      refine lv_iload hx hb d_M_fold_17 (lv_at hl 5 rfl) ?_
      refine n_iadd hx hb d_M_fold_19 ?_
      refine m_ld hx hb hK hm 30 rfl (fr + i) rfl (show fr + i < 10 from by omega) d_M_fold_20 ?_
      refine W.eq (g2 := F0 m 21 ls [.int (A 30 (fr + i)), .int (nI ((foldT (t.take i)).length)), .ref (ad 34)]) rfl ?_
      refine W.eq (g2 := F0 m 21 ls [.int (nI (t.getD i 0)), .int (nI ((foldT (t.take i)).length)), .ref (ad 34)]) (by rw [htx i (by omega)]) ?_
      refine m_st hx hb hK hm 34 rfl ((foldT (t.take i)).length) rfl (show (foldT (t.take i)).length < 10 from by omega) d_M_fold_21 (fun H locs hm => ?_)
      have hm : mS g s.heap H x ad F (updA (updA A 34 f) 34 (upd (f) ((foldT (t.take i)).length) (nI (t.getD i 0)))) B locs := hm
      refine lv_iload hx hb d_M_fold_22 (lv_at hl 4 rfl) ?_
      refine lv_aload_n hx hb d_M_fold_24 rfl (lv_at hl 0 rfl) ?_
      refine lv_iload_n hx hb d_M_fold_25 rfl (lv_at hl 1 rfl) ?_
      refine lv_iload hx hb d_M_fold_26 (lv_at hl 5 rfl) ?_
      refine n_iadd hx hb d_M_fold_28 ?_
      refine m_ld hx hb hK hm 30 rfl (fr + i) rfl (show fr + i < 10 from by omega) d_M_fold_29 ?_
      refine W.eq (g2 := F0 m 30 ls [.int (A 30 (fr + i)), .int (nI ((foldT (t.take i)).length))]) rfl ?_
      refine W.eq (g2 := F0 m 30 ls [.int (nI (t.getD i 0)), .int (nI ((foldT (t.take i)).length))]) (by rw [htx i (by omega)]) ?_
      refine lv_bipush (v := nI 45) hx hb d_M_fold_30 (by decide) ?_
      refine n_ne (tgt := 39) (a := t.getD i 0) (b := 45) hx hb d_M_fold_32 (by decide) (by omega) (by omega) (fun c32 => ?_) (fun c32 => ?_)
      · skip
        refine lv_iconst (v := nI 1) hx hb d_M_fold_39 (by decide) ?_
        refine n_iadd hx hb d_M_fold_40 ?_
        refine lv_istore (lv' := [(4, .int (nI (((foldT (t.take i)).length) + 1))), (0, .ref (ad 30)), (1, .int (nI fr)), (2, .int (nI t.length)), (3, .ref (ad 34)), (5, .int (nI i))]) hx hb d_M_fold_41 hl (by decide) rfl (fun ls hl => ?_)
        rw [updA2] at hm
        have e8 : foldT (t.take (i + 1)) = foldT (t.take i) ++ [t.getD i 0] := by rw [fo_s c9, if_neg c32]
        have hf2 : ∀ q, q < (foldT (t.take (i + 1))).length → (upd f (foldT (t.take i)).length (nI (t.getD i 0))) q = nI ((foldT (t.take (i + 1))).getD q 0) := by
          rw [e8]; intro q hq; rw [List.length_append] at hq; simp only [List.length_cons, List.length_nil] at hq; rw [upd]
          by_cases z : q = (foldT (t.take i)).length
          · rw [if_pos z, z, ap_eq]
          · rw [if_neg z, ap_lt (by omega)]; exact hf q (by omega)
        have e7 : (foldT (t.take i)).length + 1 = (foldT (t.take (i + 1))).length := by rw [e8, List.length_append]; rfl
        rw [e7] at hl
        have hle2 := fo_le t (i + 1)
        refine lv_iload hx hb d_M_fold_43 (lv_at hl 0 rfl) ?_
        refine lv_aload_n hx hb d_M_fold_45 rfl (lv_at hl 4 rfl) ?_
        refine va_alen (D := g.1) hx hb hK.1 (hm.1.2.1 34 rfl) 0 4 rfl rfl (v := nI 10) rfl d_M_fold_46 ?_
        refine n_ne (tgt := 53) (a := (foldT (t.take (i + 1))).length) (b := 10) hx hb d_M_fold_47 (by decide) (by omega) (by omega) (fun c47 => ?_) (fun c47 => ?_)
        · skip
          refine n_inc (a := i) (lv' := [(5, .int (nI (i + 1))), (4, .int (nI ((foldT (t.take (i + 1))).length))), (0, .ref (ad 30)), (1, .int (nI fr)), (2, .int (nI t.length)), (3, .ref (ad 34))]) hx hb d_M_fold_53 hl (k := 5) rfl (by decide) rfl (fun ls hl => ?_)
          refine lv_goto (tgt := 6) hx hb d_M_fold_56 (by decide) ?_
          exact ih (i + 1) _ H locs (by omega) (by omega) hm hf2 ls (lv_sub hl [2, 3, 4, 5, 1, 0] rfl)
        · skip
          refine lv_iload hx hb d_M_fold_50 (lv_at hl 0 rfl) ?_
          have e6 : t.take (i + 1) = t := List.take_of_length_le (by omega)
          rw [e6] at hf2
          exact W.iret hx hb hr (fun t9 ht hW => ⟨_, _, _, _, rfl, by rw [ht]; exact ⟨hm.1, hm.2.1, hm.2.2.1, fun _ h => by cases h⟩, ⟨by rw [e6], rfl, ⟨_, rfl, hf2⟩, rfl⟩⟩) hm.2.2.2 d_M_fold_52 hlk
      · skip
        refine lv_iconst (v := nI 0) hx hb d_M_fold_35 (by decide) ?_
        refine lv_goto (tgt := 40) hx hb d_M_fold_36 (by decide) ?_
        refine n_iadd hx hb d_M_fold_40 ?_
        refine lv_istore (lv' := [(4, .int (nI (((foldT (t.take i)).length) + 0))), (0, .ref (ad 30)), (1, .int (nI fr)), (2, .int (nI t.length)), (3, .ref (ad 34)), (5, .int (nI i))]) hx hb d_M_fold_41 hl (by decide) rfl (fun ls hl => ?_)
        rw [updA2] at hm
        have e8 : foldT (t.take (i + 1)) = foldT (t.take i) := by rw [fo_s c9, if_pos c32]
        have hf2 : ∀ q, q < (foldT (t.take (i + 1))).length → (upd f (foldT (t.take i)).length (nI (t.getD i 0))) q = nI ((foldT (t.take (i + 1))).getD q 0) := by
          rw [e8]; intro q hq; rw [upd, if_neg (by omega)]; exact hf q hq
        have e7 : (foldT (t.take i)).length + 0 = (foldT (t.take (i + 1))).length := by rw [e8]; omega
        rw [e7] at hl
        have hle2 := fo_le t (i + 1)
        refine lv_iload hx hb d_M_fold_43 (lv_at hl 0 rfl) ?_
        refine lv_aload_n hx hb d_M_fold_45 rfl (lv_at hl 4 rfl) ?_
        refine va_alen (D := g.1) hx hb hK.1 (hm.1.2.1 34 rfl) 0 4 rfl rfl (v := nI 10) rfl d_M_fold_46 ?_
        refine n_ne (tgt := 53) (a := (foldT (t.take (i + 1))).length) (b := 10) hx hb d_M_fold_47 (by decide) (by omega) (by omega) (fun c47 => ?_) (fun c47 => ?_)
        · skip
          refine n_inc (a := i) (lv' := [(5, .int (nI (i + 1))), (4, .int (nI ((foldT (t.take (i + 1))).length))), (0, .ref (ad 30)), (1, .int (nI fr)), (2, .int (nI t.length)), (3, .ref (ad 34))]) hx hb d_M_fold_53 hl (k := 5) rfl (by decide) rfl (fun ls hl => ?_)
          refine lv_goto (tgt := 6) hx hb d_M_fold_56 (by decide) ?_
          exact ih (i + 1) _ H locs (by omega) (by omega) hm hf2 ls (lv_sub hl [2, 3, 4, 5, 1, 0] rfl)
        · skip
          refine lv_iload hx hb d_M_fold_50 (lv_at hl 0 rfl) ?_
          have e6 : t.take (i + 1) = t := List.take_of_length_le (by omega)
          rw [e6] at hf2
          exact W.iret hx hb hr (fun t9 ht hW => ⟨_, _, _, _, rfl, by rw [ht]; exact ⟨hm.1, hm.2.1, hm.2.2.1, fun _ h => by cases h⟩, ⟨by rw [e6], rfl, ⟨_, rfl, hf2⟩, rfl⟩⟩) hm.2.2.2 d_M_fold_52 hlk
set_option maxHeartbeats 4000000 in
set_option maxRecDepth 100000 in
theorem c_M_fold30 (l : Launch) (g : gG) (H : Heap) (x : Nat) (ad : Nat → Nat) (F : Nat → Int32) (A : Nat → Nat → Int32) (B : Nat → Nat → Int64) (hm0 : mW g H x ad F A B) (fr : Nat) (t : List Nat) (ht : t.length ≤ 10) (hfr : fr + t.length ≤ 10) (htx : txt A 30 fr t) (hc : ∀ k, t.getD k 0 < 128) : Met l y_M_fold (wC y_M_fold b_M_fold 6 (some .int)) (rmk 0 0 0 0) (pC g H [.ref (ad 30), .int (nI fr), .int (nI t.length), .ref (ad 34)]) (qM g H x ad (fun v F1 A1 B1 => v = some (.int (nI (foldT t).length)) ∧ F1 = F ∧ (∃ f, A1 = updA A 34 f ∧ ∀ q, q < (foldT t).length → f q = nI ((foldT t).getD q 0)) ∧ B1 = B)) 0 0 (mN x ad) := by
  refine mB (by decide) (Nat.le_of_ble_eq_true rfl) ?_
  intro p e s m below meth c ls C0 hH hZ hnm hl
  have C0 : cF g p s m _ meth c b_M_fold 6 "RegistryLogModel" (some .int) := C0
  obtain ⟨hx, hb, hml, hown, hts, hr, hlk, hK⟩ := id C0
  subst hH
  have hl : lv_has ls 6 [(0, .ref (ad 30)), (1, .int (nI fr)), (2, .int (nI t.length)), (3, .ref (ad 34))] := hl
  have hm := mS.rf hm0
  refine lv_iconst (v := nI 0) hx hb d_M_fold_0 (by decide) ?_
  refine lv_istore (lv' := [(4, .int (nI 0)), (0, .ref (ad 30)), (1, .int (nI fr)), (2, .int (nI t.length)), (3, .ref (ad 34))]) hx hb d_M_fold_1 hl (by decide) rfl (fun ls hl => ?_)
  refine lv_iconst (v := nI 0) hx hb d_M_fold_3 (by decide) ?_
  refine lv_istore (lv' := [(5, .int (nI 0)), (4, .int (nI 0)), (0, .ref (ad 30)), (1, .int (nI fr)), (2, .int (nI t.length)), (3, .ref (ad 34))]) hx hb d_M_fold_4 hl (by decide) rfl (fun ls hl => ?_)
  exact lp_M_fold30 C0 fr t ht hfr htx hc (t.length + 1) 0 (A 34) s.heap [] (Nat.zero_le _) (by omega) (by rw [updA_id]; exact hm) (fun q hq => absurd hq (by simp [foldT])) ls (lv_sub hl [2, 3, 4, 5, 1, 0] rfl)
set_option maxHeartbeats 4000000 in
set_option maxRecDepth 100000 in
theorem lp_M_fold31 {p : Program} {l : Launch} {e : Env} {s : State} {m : MethodId} {args : Array Value} {below : List Frame} {meth : Method} {c : Code} {g : gG} (C0 : cF g p s m args meth c b_M_fold 6 "RegistryLogModel" (some .int)) {x : Nat} {ad : Nat → Nat} {F : Nat → Int32} {A : Nat → Nat → Int32} {B : Nat → Nat → Int64} (fr : Nat) (t : List Nat) (ht : t.length ≤ 10) (hfr : fr + t.length ≤ 10) (htx : txt A 31 fr t) (hc : ∀ k, t.getD k 0 < 128) :
    ∀ (n i : Nat) (f : Nat → Int32) (H : Heap) (locs : List Loc), i ≤ t.length → t.length + 1 ≤ i + n → mS g s.heap H x ad F (updA A 34 f) B locs → (∀ q, q < (foldT (t.take i)).length → f q = nI ((foldT (t.take i)).getD q 0)) → ∀ (ls : Array Slot), lv_has ls 6 [(0, .ref (ad 31)), (1, .int (nI fr)), (2, .int (nI t.length)), (3, .ref (ad 34)), (4, .int (nI ((foldT (t.take i)).length))), (5, .int (nI i))] → W p l e (rmk 0 0 0 0) s m args below meth c H locs 0 0 (MQ below (qM g s.heap x ad (fun v F1 A1 B1 => v = some (.int (nI (foldT t).length)) ∧ F1 = F ∧ (∃ f, A1 = updA A 34 f ∧ ∀ q, q < (foldT t).length → f q = nI ((foldT t).getD q 0)) ∧ B1 = B)) args s 0 0 (mN x ad)) (F0 m 6 ls []) := by
  obtain ⟨hx, hb, hml, hown, hts, hr, hlk, hK⟩ := id C0
  intro n
  induction n with
  | zero => intro i f H locs h1 h2; exact absurd h2 (by omega)
  | succ n ih =>
    intro i f H locs hi hin hm hf ls hl
    have hle := fo_le t i
    have hci := hc i
    refine lv_iload hx hb d_M_fold_6 (lv_at hl 5 rfl) ?_
    refine lv_iload_n hx hb d_M_fold_8 rfl (lv_at hl 2 rfl) ?_
    refine n_ge (tgt := 59) (a := i) (b := t.length) hx hb d_M_fold_9 (by decide) (by omega) (by omega) (fun c9 => ?_) (fun c9 => ?_)
    · skip
      refine lv_iload hx hb d_M_fold_59 (lv_at hl 4 rfl) ?_
      have e6 : t.take i = t := List.take_of_length_le (by omega)
      rw [e6] at hf
      exact W.iret hx hb hr (fun t9 ht hW => ⟨_, _, _, _, rfl, by rw [ht]; exact ⟨hm.1, hm.2.1, hm.2.2.1, fun _ h => by cases h⟩, ⟨by rw [e6], rfl, ⟨_, rfl, hf⟩, rfl⟩⟩) hm.2.2.2 d_M_fold_61 hlk
    · skip
      refine lv_aload_n hx hb d_M_fold_12 rfl (lv_at hl 3 rfl) ?_
      refine lv_iload hx hb d_M_fold_13 (lv_at hl 4 rfl) ?_
      refine lv_aload_n hx hb d_M_fold_15 rfl (lv_at hl 0 rfl) ?_
      refine lv_iload_n hx hb d_M_fold_16 rfl (lv_at hl 1 rfl) ?_
      refine lv_iload hx hb d_M_fold_17 (lv_at hl 5 rfl) ?_
      refine n_iadd hx hb d_M_fold_19 ?_
      refine m_ld hx hb hK hm 31 rfl (fr + i) rfl (show fr + i < 10 from by omega) d_M_fold_20 ?_
      refine W.eq (g2 := F0 m 21 ls [.int (A 31 (fr + i)), .int (nI ((foldT (t.take i)).length)), .ref (ad 34)]) rfl ?_
      refine W.eq (g2 := F0 m 21 ls [.int (nI (t.getD i 0)), .int (nI ((foldT (t.take i)).length)), .ref (ad 34)]) (by rw [htx i (by omega)]) ?_
      refine m_st hx hb hK hm 34 rfl ((foldT (t.take i)).length) rfl (show (foldT (t.take i)).length < 10 from by omega) d_M_fold_21 (fun H locs hm => ?_)
      have hm : mS g s.heap H x ad F (updA (updA A 34 f) 34 (upd (f) ((foldT (t.take i)).length) (nI (t.getD i 0)))) B locs := hm
      refine lv_iload hx hb d_M_fold_22 (lv_at hl 4 rfl) ?_
      refine lv_aload_n hx hb d_M_fold_24 rfl (lv_at hl 0 rfl) ?_
      refine lv_iload_n hx hb d_M_fold_25 rfl (lv_at hl 1 rfl) ?_
      refine lv_iload hx hb d_M_fold_26 (lv_at hl 5 rfl) ?_
      refine n_iadd hx hb d_M_fold_28 ?_
      refine m_ld hx hb hK hm 31 rfl (fr + i) rfl (show fr + i < 10 from by omega) d_M_fold_29 ?_
      refine W.eq (g2 := F0 m 30 ls [.int (A 31 (fr + i)), .int (nI ((foldT (t.take i)).length))]) rfl ?_
      refine W.eq (g2 := F0 m 30 ls [.int (nI (t.getD i 0)), .int (nI ((foldT (t.take i)).length))]) (by rw [htx i (by omega)]) ?_
      refine lv_bipush (v := nI 45) hx hb d_M_fold_30 (by decide) ?_
      refine n_ne (tgt := 39) (a := t.getD i 0) (b := 45) hx hb d_M_fold_32 (by decide) (by omega) (by omega) (fun c32 => ?_) (fun c32 => ?_)
      · skip
        refine lv_iconst (v := nI 1) hx hb d_M_fold_39 (by decide) ?_
        refine n_iadd hx hb d_M_fold_40 ?_
        refine lv_istore (lv' := [(4, .int (nI (((foldT (t.take i)).length) + 1))), (0, .ref (ad 31)), (1, .int (nI fr)), (2, .int (nI t.length)), (3, .ref (ad 34)), (5, .int (nI i))]) hx hb d_M_fold_41 hl (by decide) rfl (fun ls hl => ?_)
        rw [updA2] at hm
        have e8 : foldT (t.take (i + 1)) = foldT (t.take i) ++ [t.getD i 0] := by rw [fo_s c9, if_neg c32]
        have hf2 : ∀ q, q < (foldT (t.take (i + 1))).length → (upd f (foldT (t.take i)).length (nI (t.getD i 0))) q = nI ((foldT (t.take (i + 1))).getD q 0) := by
          rw [e8]; intro q hq; rw [List.length_append] at hq; simp only [List.length_cons, List.length_nil] at hq; rw [upd]
          by_cases z : q = (foldT (t.take i)).length
          · rw [if_pos z, z, ap_eq]
          · rw [if_neg z, ap_lt (by omega)]; exact hf q (by omega)
        have e7 : (foldT (t.take i)).length + 1 = (foldT (t.take (i + 1))).length := by rw [e8, List.length_append]; rfl
        rw [e7] at hl
        have hle2 := fo_le t (i + 1)
        refine lv_iload hx hb d_M_fold_43 (lv_at hl 0 rfl) ?_
        refine lv_aload_n hx hb d_M_fold_45 rfl (lv_at hl 4 rfl) ?_
        refine va_alen (D := g.1) hx hb hK.1 (hm.1.2.1 34 rfl) 0 4 rfl rfl (v := nI 10) rfl d_M_fold_46 ?_
        refine n_ne (tgt := 53) (a := (foldT (t.take (i + 1))).length) (b := 10) hx hb d_M_fold_47 (by decide) (by omega) (by omega) (fun c47 => ?_) (fun c47 => ?_)
        · skip
          refine n_inc (a := i) (lv' := [(5, .int (nI (i + 1))), (4, .int (nI ((foldT (t.take (i + 1))).length))), (0, .ref (ad 31)), (1, .int (nI fr)), (2, .int (nI t.length)), (3, .ref (ad 34))]) hx hb d_M_fold_53 hl (k := 5) rfl (by decide) rfl (fun ls hl => ?_)
          refine lv_goto (tgt := 6) hx hb d_M_fold_56 (by decide) ?_
          exact ih (i + 1) _ H locs (by omega) (by omega) hm hf2 ls (lv_sub hl [2, 3, 4, 5, 1, 0] rfl)
        · skip
          refine lv_iload hx hb d_M_fold_50 (lv_at hl 0 rfl) ?_
          have e6 : t.take (i + 1) = t := List.take_of_length_le (by omega)
          rw [e6] at hf2
          exact W.iret hx hb hr (fun t9 ht hW => ⟨_, _, _, _, rfl, by rw [ht]; exact ⟨hm.1, hm.2.1, hm.2.2.1, fun _ h => by cases h⟩, ⟨by rw [e6], rfl, ⟨_, rfl, hf2⟩, rfl⟩⟩) hm.2.2.2 d_M_fold_52 hlk
      · skip
        refine lv_iconst (v := nI 0) hx hb d_M_fold_35 (by decide) ?_
        refine lv_goto (tgt := 40) hx hb d_M_fold_36 (by decide) ?_
        refine n_iadd hx hb d_M_fold_40 ?_
        refine lv_istore (lv' := [(4, .int (nI (((foldT (t.take i)).length) + 0))), (0, .ref (ad 31)), (1, .int (nI fr)), (2, .int (nI t.length)), (3, .ref (ad 34)), (5, .int (nI i))]) hx hb d_M_fold_41 hl (by decide) rfl (fun ls hl => ?_)
        rw [updA2] at hm
        have e8 : foldT (t.take (i + 1)) = foldT (t.take i) := by rw [fo_s c9, if_pos c32]
        have hf2 : ∀ q, q < (foldT (t.take (i + 1))).length → (upd f (foldT (t.take i)).length (nI (t.getD i 0))) q = nI ((foldT (t.take (i + 1))).getD q 0) := by
          rw [e8]; intro q hq; rw [upd, if_neg (by omega)]; exact hf q hq
        have e7 : (foldT (t.take i)).length + 0 = (foldT (t.take (i + 1))).length := by rw [e8]; omega
        rw [e7] at hl
        have hle2 := fo_le t (i + 1)
        refine lv_iload hx hb d_M_fold_43 (lv_at hl 0 rfl) ?_
        refine lv_aload_n hx hb d_M_fold_45 rfl (lv_at hl 4 rfl) ?_
        refine va_alen (D := g.1) hx hb hK.1 (hm.1.2.1 34 rfl) 0 4 rfl rfl (v := nI 10) rfl d_M_fold_46 ?_
        refine n_ne (tgt := 53) (a := (foldT (t.take (i + 1))).length) (b := 10) hx hb d_M_fold_47 (by decide) (by omega) (by omega) (fun c47 => ?_) (fun c47 => ?_)
        · skip
          refine n_inc (a := i) (lv' := [(5, .int (nI (i + 1))), (4, .int (nI ((foldT (t.take (i + 1))).length))), (0, .ref (ad 31)), (1, .int (nI fr)), (2, .int (nI t.length)), (3, .ref (ad 34))]) hx hb d_M_fold_53 hl (k := 5) rfl (by decide) rfl (fun ls hl => ?_)
          refine lv_goto (tgt := 6) hx hb d_M_fold_56 (by decide) ?_
          exact ih (i + 1) _ H locs (by omega) (by omega) hm hf2 ls (lv_sub hl [2, 3, 4, 5, 1, 0] rfl)
        · skip
          refine lv_iload hx hb d_M_fold_50 (lv_at hl 0 rfl) ?_
          have e6 : t.take (i + 1) = t := List.take_of_length_le (by omega)
          rw [e6] at hf2
          exact W.iret hx hb hr (fun t9 ht hW => ⟨_, _, _, _, rfl, by rw [ht]; exact ⟨hm.1, hm.2.1, hm.2.2.1, fun _ h => by cases h⟩, ⟨by rw [e6], rfl, ⟨_, rfl, hf2⟩, rfl⟩⟩) hm.2.2.2 d_M_fold_52 hlk
set_option maxHeartbeats 4000000 in
set_option maxRecDepth 100000 in
theorem c_M_fold31 (l : Launch) (g : gG) (H : Heap) (x : Nat) (ad : Nat → Nat) (F : Nat → Int32) (A : Nat → Nat → Int32) (B : Nat → Nat → Int64) (hm0 : mW g H x ad F A B) (fr : Nat) (t : List Nat) (ht : t.length ≤ 10) (hfr : fr + t.length ≤ 10) (htx : txt A 31 fr t) (hc : ∀ k, t.getD k 0 < 128) : Met l y_M_fold (wC y_M_fold b_M_fold 6 (some .int)) (rmk 0 0 0 0) (pC g H [.ref (ad 31), .int (nI fr), .int (nI t.length), .ref (ad 34)]) (qM g H x ad (fun v F1 A1 B1 => v = some (.int (nI (foldT t).length)) ∧ F1 = F ∧ (∃ f, A1 = updA A 34 f ∧ ∀ q, q < (foldT t).length → f q = nI ((foldT t).getD q 0)) ∧ B1 = B)) 0 0 (mN x ad) := by
  refine mB (by decide) (Nat.le_of_ble_eq_true rfl) ?_
  intro p e s m below meth c ls C0 hH hZ hnm hl
  have C0 : cF g p s m _ meth c b_M_fold 6 "RegistryLogModel" (some .int) := C0
  obtain ⟨hx, hb, hml, hown, hts, hr, hlk, hK⟩ := id C0
  subst hH
  have hl : lv_has ls 6 [(0, .ref (ad 31)), (1, .int (nI fr)), (2, .int (nI t.length)), (3, .ref (ad 34))] := hl
  have hm := mS.rf hm0
  refine lv_iconst (v := nI 0) hx hb d_M_fold_0 (by decide) ?_
  refine lv_istore (lv' := [(4, .int (nI 0)), (0, .ref (ad 31)), (1, .int (nI fr)), (2, .int (nI t.length)), (3, .ref (ad 34))]) hx hb d_M_fold_1 hl (by decide) rfl (fun ls hl => ?_)
  refine lv_iconst (v := nI 0) hx hb d_M_fold_3 (by decide) ?_
  refine lv_istore (lv' := [(5, .int (nI 0)), (4, .int (nI 0)), (0, .ref (ad 31)), (1, .int (nI fr)), (2, .int (nI t.length)), (3, .ref (ad 34))]) hx hb d_M_fold_4 hl (by decide) rfl (fun ls hl => ?_)
  exact lp_M_fold31 C0 fr t ht hfr htx hc (t.length + 1) 0 (A 34) s.heap [] (Nat.zero_le _) (by omega) (by rw [updA_id]; exact hm) (fun q hq => absurd hq (by simp [foldT])) ls (lv_sub hl [2, 3, 4, 5, 1, 0] rfl)
set_option maxHeartbeats 4000000 in
set_option maxRecDepth 100000 in
theorem lp_M_fold17 {p : Program} {l : Launch} {e : Env} {s : State} {m : MethodId} {args : Array Value} {below : List Frame} {meth : Method} {c : Code} {g : gG} (C0 : cF g p s m args meth c b_M_fold 6 "RegistryLogModel" (some .int)) {x : Nat} {ad : Nat → Nat} {F : Nat → Int32} {A : Nat → Nat → Int32} {B : Nat → Nat → Int64} (fr : Nat) (t : List Nat) (ht : t.length ≤ 10) (hfr : fr + t.length ≤ 2400) (htx : txt A 17 fr t) (hc : ∀ k, t.getD k 0 < 128) :
    ∀ (n i : Nat) (f : Nat → Int32) (H : Heap) (locs : List Loc), i ≤ t.length → t.length + 1 ≤ i + n → mS g s.heap H x ad F (updA A 35 f) B locs → (∀ q, q < (foldT (t.take i)).length → f q = nI ((foldT (t.take i)).getD q 0)) → ∀ (ls : Array Slot), lv_has ls 6 [(0, .ref (ad 17)), (1, .int (nI fr)), (2, .int (nI t.length)), (3, .ref (ad 35)), (4, .int (nI ((foldT (t.take i)).length))), (5, .int (nI i))] → W p l e (rmk 0 0 0 0) s m args below meth c H locs 0 0 (MQ below (qM g s.heap x ad (fun v F1 A1 B1 => v = some (.int (nI (foldT t).length)) ∧ F1 = F ∧ (∃ f, A1 = updA A 35 f ∧ ∀ q, q < (foldT t).length → f q = nI ((foldT t).getD q 0)) ∧ B1 = B)) args s 0 0 (mN x ad)) (F0 m 6 ls []) := by
  obtain ⟨hx, hb, hml, hown, hts, hr, hlk, hK⟩ := id C0
  intro n
  induction n with
  | zero => intro i f H locs h1 h2; exact absurd h2 (by omega)
  | succ n ih =>
    intro i f H locs hi hin hm hf ls hl
    have hle := fo_le t i
    have hci := hc i
    refine lv_iload hx hb d_M_fold_6 (lv_at hl 5 rfl) ?_
    refine lv_iload_n hx hb d_M_fold_8 rfl (lv_at hl 2 rfl) ?_
    refine n_ge (tgt := 59) (a := i) (b := t.length) hx hb d_M_fold_9 (by decide) (by omega) (by omega) (fun c9 => ?_) (fun c9 => ?_)
    · skip
      refine lv_iload hx hb d_M_fold_59 (lv_at hl 4 rfl) ?_
      have e6 : t.take i = t := List.take_of_length_le (by omega)
      rw [e6] at hf
      exact W.iret hx hb hr (fun t9 ht hW => ⟨_, _, _, _, rfl, by rw [ht]; exact ⟨hm.1, hm.2.1, hm.2.2.1, fun _ h => by cases h⟩, ⟨by rw [e6], rfl, ⟨_, rfl, hf⟩, rfl⟩⟩) hm.2.2.2 d_M_fold_61 hlk
    · skip
      refine lv_aload_n hx hb d_M_fold_12 rfl (lv_at hl 3 rfl) ?_
      refine lv_iload hx hb d_M_fold_13 (lv_at hl 4 rfl) ?_
      refine lv_aload_n hx hb d_M_fold_15 rfl (lv_at hl 0 rfl) ?_
      refine lv_iload_n hx hb d_M_fold_16 rfl (lv_at hl 1 rfl) ?_
      refine lv_iload hx hb d_M_fold_17 (lv_at hl 5 rfl) ?_
      refine n_iadd hx hb d_M_fold_19 ?_
      refine m_ld hx hb hK hm 17 rfl (fr + i) rfl (show fr + i < 2400 from by omega) d_M_fold_20 ?_
      refine W.eq (g2 := F0 m 21 ls [.int (A 17 (fr + i)), .int (nI ((foldT (t.take i)).length)), .ref (ad 35)]) rfl ?_
      refine W.eq (g2 := F0 m 21 ls [.int (nI (t.getD i 0)), .int (nI ((foldT (t.take i)).length)), .ref (ad 35)]) (by rw [htx i (by omega)]) ?_
      refine m_st hx hb hK hm 35 rfl ((foldT (t.take i)).length) rfl (show (foldT (t.take i)).length < 10 from by omega) d_M_fold_21 (fun H locs hm => ?_)
      have hm : mS g s.heap H x ad F (updA (updA A 35 f) 35 (upd (f) ((foldT (t.take i)).length) (nI (t.getD i 0)))) B locs := hm
      refine lv_iload hx hb d_M_fold_22 (lv_at hl 4 rfl) ?_
      refine lv_aload_n hx hb d_M_fold_24 rfl (lv_at hl 0 rfl) ?_
      refine lv_iload_n hx hb d_M_fold_25 rfl (lv_at hl 1 rfl) ?_
      refine lv_iload hx hb d_M_fold_26 (lv_at hl 5 rfl) ?_
      refine n_iadd hx hb d_M_fold_28 ?_
      refine m_ld hx hb hK hm 17 rfl (fr + i) rfl (show fr + i < 2400 from by omega) d_M_fold_29 ?_
      refine W.eq (g2 := F0 m 30 ls [.int (A 17 (fr + i)), .int (nI ((foldT (t.take i)).length))]) rfl ?_
      refine W.eq (g2 := F0 m 30 ls [.int (nI (t.getD i 0)), .int (nI ((foldT (t.take i)).length))]) (by rw [htx i (by omega)]) ?_
      refine lv_bipush (v := nI 45) hx hb d_M_fold_30 (by decide) ?_
      refine n_ne (tgt := 39) (a := t.getD i 0) (b := 45) hx hb d_M_fold_32 (by decide) (by omega) (by omega) (fun c32 => ?_) (fun c32 => ?_)
      · skip
        refine lv_iconst (v := nI 1) hx hb d_M_fold_39 (by decide) ?_
        refine n_iadd hx hb d_M_fold_40 ?_
        refine lv_istore (lv' := [(4, .int (nI (((foldT (t.take i)).length) + 1))), (0, .ref (ad 17)), (1, .int (nI fr)), (2, .int (nI t.length)), (3, .ref (ad 35)), (5, .int (nI i))]) hx hb d_M_fold_41 hl (by decide) rfl (fun ls hl => ?_)
        rw [updA2] at hm
        have e8 : foldT (t.take (i + 1)) = foldT (t.take i) ++ [t.getD i 0] := by rw [fo_s c9, if_neg c32]
        have hf2 : ∀ q, q < (foldT (t.take (i + 1))).length → (upd f (foldT (t.take i)).length (nI (t.getD i 0))) q = nI ((foldT (t.take (i + 1))).getD q 0) := by
          rw [e8]; intro q hq; rw [List.length_append] at hq; simp only [List.length_cons, List.length_nil] at hq; rw [upd]
          by_cases z : q = (foldT (t.take i)).length
          · rw [if_pos z, z, ap_eq]
          · rw [if_neg z, ap_lt (by omega)]; exact hf q (by omega)
        have e7 : (foldT (t.take i)).length + 1 = (foldT (t.take (i + 1))).length := by rw [e8, List.length_append]; rfl
        rw [e7] at hl
        have hle2 := fo_le t (i + 1)
        refine lv_iload hx hb d_M_fold_43 (lv_at hl 0 rfl) ?_
        refine lv_aload_n hx hb d_M_fold_45 rfl (lv_at hl 4 rfl) ?_
        refine va_alen (D := g.1) hx hb hK.1 (hm.1.2.1 35 rfl) 0 4 rfl rfl (v := nI 10) rfl d_M_fold_46 ?_
        refine n_ne (tgt := 53) (a := (foldT (t.take (i + 1))).length) (b := 10) hx hb d_M_fold_47 (by decide) (by omega) (by omega) (fun c47 => ?_) (fun c47 => ?_)
        · skip
          refine n_inc (a := i) (lv' := [(5, .int (nI (i + 1))), (4, .int (nI ((foldT (t.take (i + 1))).length))), (0, .ref (ad 17)), (1, .int (nI fr)), (2, .int (nI t.length)), (3, .ref (ad 35))]) hx hb d_M_fold_53 hl (k := 5) rfl (by decide) rfl (fun ls hl => ?_)
          refine lv_goto (tgt := 6) hx hb d_M_fold_56 (by decide) ?_
          exact ih (i + 1) _ H locs (by omega) (by omega) hm hf2 ls (lv_sub hl [2, 3, 4, 5, 1, 0] rfl)
        · skip
          refine lv_iload hx hb d_M_fold_50 (lv_at hl 0 rfl) ?_
          have e6 : t.take (i + 1) = t := List.take_of_length_le (by omega)
          rw [e6] at hf2
          exact W.iret hx hb hr (fun t9 ht hW => ⟨_, _, _, _, rfl, by rw [ht]; exact ⟨hm.1, hm.2.1, hm.2.2.1, fun _ h => by cases h⟩, ⟨by rw [e6], rfl, ⟨_, rfl, hf2⟩, rfl⟩⟩) hm.2.2.2 d_M_fold_52 hlk
      · skip
        refine lv_iconst (v := nI 0) hx hb d_M_fold_35 (by decide) ?_
        refine lv_goto (tgt := 40) hx hb d_M_fold_36 (by decide) ?_
        refine n_iadd hx hb d_M_fold_40 ?_
        refine lv_istore (lv' := [(4, .int (nI (((foldT (t.take i)).length) + 0))), (0, .ref (ad 17)), (1, .int (nI fr)), (2, .int (nI t.length)), (3, .ref (ad 35)), (5, .int (nI i))]) hx hb d_M_fold_41 hl (by decide) rfl (fun ls hl => ?_)
        rw [updA2] at hm
        have e8 : foldT (t.take (i + 1)) = foldT (t.take i) := by rw [fo_s c9, if_pos c32]
        have hf2 : ∀ q, q < (foldT (t.take (i + 1))).length → (upd f (foldT (t.take i)).length (nI (t.getD i 0))) q = nI ((foldT (t.take (i + 1))).getD q 0) := by
          rw [e8]; intro q hq; rw [upd, if_neg (by omega)]; exact hf q hq
        have e7 : (foldT (t.take i)).length + 0 = (foldT (t.take (i + 1))).length := by rw [e8]; omega
        rw [e7] at hl
        have hle2 := fo_le t (i + 1)
        refine lv_iload hx hb d_M_fold_43 (lv_at hl 0 rfl) ?_
        refine lv_aload_n hx hb d_M_fold_45 rfl (lv_at hl 4 rfl) ?_
        refine va_alen (D := g.1) hx hb hK.1 (hm.1.2.1 35 rfl) 0 4 rfl rfl (v := nI 10) rfl d_M_fold_46 ?_
        refine n_ne (tgt := 53) (a := (foldT (t.take (i + 1))).length) (b := 10) hx hb d_M_fold_47 (by decide) (by omega) (by omega) (fun c47 => ?_) (fun c47 => ?_)
        · skip
          refine n_inc (a := i) (lv' := [(5, .int (nI (i + 1))), (4, .int (nI ((foldT (t.take (i + 1))).length))), (0, .ref (ad 17)), (1, .int (nI fr)), (2, .int (nI t.length)), (3, .ref (ad 35))]) hx hb d_M_fold_53 hl (k := 5) rfl (by decide) rfl (fun ls hl => ?_)
          refine lv_goto (tgt := 6) hx hb d_M_fold_56 (by decide) ?_
          exact ih (i + 1) _ H locs (by omega) (by omega) hm hf2 ls (lv_sub hl [2, 3, 4, 5, 1, 0] rfl)
        · skip
          refine lv_iload hx hb d_M_fold_50 (lv_at hl 0 rfl) ?_
          have e6 : t.take (i + 1) = t := List.take_of_length_le (by omega)
          rw [e6] at hf2
          exact W.iret hx hb hr (fun t9 ht hW => ⟨_, _, _, _, rfl, by rw [ht]; exact ⟨hm.1, hm.2.1, hm.2.2.1, fun _ h => by cases h⟩, ⟨by rw [e6], rfl, ⟨_, rfl, hf2⟩, rfl⟩⟩) hm.2.2.2 d_M_fold_52 hlk
set_option maxHeartbeats 4000000 in
set_option maxRecDepth 100000 in
theorem c_M_fold17 (l : Launch) (g : gG) (H : Heap) (x : Nat) (ad : Nat → Nat) (F : Nat → Int32) (A : Nat → Nat → Int32) (B : Nat → Nat → Int64) (hm0 : mW g H x ad F A B) (fr : Nat) (t : List Nat) (ht : t.length ≤ 10) (hfr : fr + t.length ≤ 2400) (htx : txt A 17 fr t) (hc : ∀ k, t.getD k 0 < 128) : Met l y_M_fold (wC y_M_fold b_M_fold 6 (some .int)) (rmk 0 0 0 0) (pC g H [.ref (ad 17), .int (nI fr), .int (nI t.length), .ref (ad 35)]) (qM g H x ad (fun v F1 A1 B1 => v = some (.int (nI (foldT t).length)) ∧ F1 = F ∧ (∃ f, A1 = updA A 35 f ∧ ∀ q, q < (foldT t).length → f q = nI ((foldT t).getD q 0)) ∧ B1 = B)) 0 0 (mN x ad) := by
  refine mB (by decide) (Nat.le_of_ble_eq_true rfl) ?_
  intro p e s m below meth c ls C0 hH hZ hnm hl
  have C0 : cF g p s m _ meth c b_M_fold 6 "RegistryLogModel" (some .int) := C0
  obtain ⟨hx, hb, hml, hown, hts, hr, hlk, hK⟩ := id C0
  subst hH
  have hl : lv_has ls 6 [(0, .ref (ad 17)), (1, .int (nI fr)), (2, .int (nI t.length)), (3, .ref (ad 35))] := hl
  have hm := mS.rf hm0
  refine lv_iconst (v := nI 0) hx hb d_M_fold_0 (by decide) ?_
  refine lv_istore (lv' := [(4, .int (nI 0)), (0, .ref (ad 17)), (1, .int (nI fr)), (2, .int (nI t.length)), (3, .ref (ad 35))]) hx hb d_M_fold_1 hl (by decide) rfl (fun ls hl => ?_)
  refine lv_iconst (v := nI 0) hx hb d_M_fold_3 (by decide) ?_
  refine lv_istore (lv' := [(5, .int (nI 0)), (4, .int (nI 0)), (0, .ref (ad 17)), (1, .int (nI fr)), (2, .int (nI t.length)), (3, .ref (ad 35))]) hx hb d_M_fold_4 hl (by decide) rfl (fun ls hl => ?_)
  exact lp_M_fold17 C0 fr t ht hfr htx hc (t.length + 1) 0 (A 35) s.heap [] (Nat.zero_le _) (by omega) (by rw [updA_id]; exact hm) (fun q hq => absurd hq (by simp [foldT])) ls (lv_sub hl [2, 3, 4, 5, 1, 0] rfl)
theorem k_M_isNear_7 : kS "RegistryLogModel" 129 y_M_fold b_M_fold 6 (some .int) 4 := ⟨(in_5 (List.mem_of_getElem? (i := 163) rfl) rfl), (in_5 (List.mem_of_getElem? (i := 164) rfl) rfl), (in_1 (List.mem_of_getElem? (i := 22) rfl) rfl), (in_5 (List.mem_of_getElem? (i := 165) rfl) rfl), ⟨by decide, by decide, by decide +kernel⟩⟩
theorem k_M_isNear_30 : kS "RegistryLogModel" 129 y_M_fold b_M_fold 6 (some .int) 4 := ⟨(in_5 (List.mem_of_getElem? (i := 163) rfl) rfl), (in_5 (List.mem_of_getElem? (i := 164) rfl) rfl), (in_1 (List.mem_of_getElem? (i := 22) rfl) rfl), (in_5 (List.mem_of_getElem? (i := 165) rfl) rfl), ⟨by decide, by decide, by decide +kernel⟩⟩
def nearM (t u : List Nat) : Bool :=
  decide ((foldT t).length - cbS (foldT t) (foldT u) - cbS ((foldT t).drop (cbS (foldT t) (foldT u))).reverse ((foldT u).drop (cbS (foldT t) (foldT u))).reverse ≤ 1 ∧ (foldT u).length - cbS (foldT t) (foldT u) - cbS ((foldT t).drop (cbS (foldT t) (foldT u))).reverse ((foldT u).drop (cbS (foldT t) (foldT u))).reverse ≤ 1)
theorem cbS_le2 : ∀ (t u : List Nat), cbS t u ≤ u.length
  | [], u => by unfold cbS; exact Nat.zero_le _
  | x :: t, [] => by unfold cbS; exact Nat.zero_le _
  | x :: t, y :: u => by
    unfold cbS
    split
    · have := cbS_le2 t u; simp only [List.length_cons]; omega
    · exact Nat.zero_le _
theorem rd_at {t : List Nat} {s i : Nat} (h : i < t.length - s) : (t.drop s).reverse.getD i 0 = t.getD (t.length - 1 - i) 0 := by
  rw [rev_at (by rw [List.length_drop]; omega), List.length_drop, List.getD_eq_getElem?_getD, List.getD_eq_getElem?_getD, List.getElem?_drop]
  congr 2
  omega
set_option maxHeartbeats 4000000 in
set_option maxRecDepth 100000 in
theorem lp_M_isNear1 {p : Program} {l : Launch} {e : Env} {s : State} {m : MethodId} {args : Array Value} {below : List Frame} {meth : Method} {c : Code} {g : gG} {R : Room} {Q : State → Prop} (C0 : cF g p s m args meth c b_M_isNear 8 "RegistryLogModel" (some .boolean)) (hZ : zK g s s.heap) {x : Nat} {ad : Nat → Nat} {F : Nat → Int32} {A : Nat → Nat → Int32} {B : Nat → Nat → Int64} (a b : List Nat) (ha : a.length ≤ 10) (hb9 : b.length ≤ 10) (hca : ∀ k, a.getD k 0 < 128) (hcb : ∀ k, b.getD k 0 < 128) (h34 : ∀ q, q < a.length → A 34 q = nI (a.getD q 0)) (h35 : ∀ q, q < b.length → A 35 q = nI (b.getD q 0)) (jj : Nat) (v1 v2 v3 : Int32) (res : Nat) (K : ∀ (H : Heap) (locs : List Loc), mS g s.heap H x ad F A B locs → ∀ (ls : Array Slot), lv_has ls 8 [(0, .ref x), (1, .ref (ad jj)), (2, .int v2), (3, .int v3), (4, .int (nI a.length)), (5, .int (nI b.length)), (6, .int (nI res))] → W p l e R s m args below meth c H locs 0 0 Q (F0 m 75 ls [])) :
    ∀ (n i : Nat) (H : Heap) (locs : List Loc), i ≤ 10 → 10 + 1 ≤ i + n → mS g s.heap H x ad F A B locs → cbS (a.drop i) (b.drop i) + i = res → ∀ (ls : Array Slot), lv_has ls 8 [(0, .ref x), (1, .ref (ad jj)), (2, .int v2), (3, .int v3), (4, .int (nI a.length)), (5, .int (nI b.length)), (6, .int (nI i))] → W p l e R s m args below meth c H locs 0 0 Q (F0 m 38 ls []) := by
  obtain ⟨hx, hb, hml, hown, hts, hr, hlk, hK⟩ := id C0
  intro n
  induction n with
  | zero => intro i H locs h1 h2; exact absurd h2 (by omega)
  | succ n ih =>
    intro i H locs hi hin hm hres ls hl
    have hca1 := hca i
    have hcb1 := hcb i
    refine lv_iload hx hb d_M_isNear_38 (lv_at hl 6 rfl) ?_
    refine lv_iload hx hb d_M_isNear_40 (lv_at hl 4 rfl) ?_
    refine n_ge (tgt := 75) (a := i) (b := a.length) hx hb d_M_isNear_42 (by decide) (by omega) (by omega) (fun c42 => ?_) (fun c42 => ?_)
    · skip
      rw [cb_end (by omega)] at hres
      have e9 : i = res := by omega
      rw [e9] at hl
      exact K H locs hm ls (lv_sub hl [0, 1, 2, 3, 4, 5, 6] rfl)
    · skip
      refine lv_iload hx hb d_M_isNear_45 (lv_at hl 6 rfl) ?_
      refine lv_iload hx hb d_M_isNear_47 (lv_at hl 5 rfl) ?_
      refine n_ge (tgt := 75) (a := i) (b := b.length) hx hb d_M_isNear_49 (by decide) (by omega) (by omega) (fun c49 => ?_) (fun c49 => ?_)
      · skip
        rw [cb_end (by omega)] at hres
        have e9 : i = res := by omega
        rw [e9] at hl
        exact K H locs hm ls (lv_sub hl [0, 1, 2, 3, 4, 5, 6] rfl)
      · skip
        refine lv_aload_n hx hb d_M_isNear_52 rfl (lv_at hl 0 rfl) ?_
        refine m_get hx hb hts hown hK hm 34 (by decide) (hts (.fieldLink "RegistryLogModel" 86 "RegistryLogModel" "foldA" "[I") (in_5 (List.mem_of_getElem? (i := 3) rfl) rfl)) rfl (v := .ref (ad 34)) rfl d_M_isNear_53 ?_
        refine lv_iload hx hb d_M_isNear_56 (lv_at hl 6 rfl) ?_
        refine m_ld hx hb hK hm 34 rfl i rfl (show i < 10 from by omega) d_M_isNear_58 ?_
        refine W.eq (g2 := F0 m 59 ls [.int (nI (a.getD i 0))]) (by rw [h34 i (by omega)]) ?_
        refine lv_aload_n hx hb d_M_isNear_59 rfl (lv_at hl 0 rfl) ?_
        refine m_get hx hb hts hown hK hm 35 (by decide) (hts (.fieldLink "RegistryLogModel" 89 "RegistryLogModel" "foldB" "[I") (in_5 (List.mem_of_getElem? (i := 4) rfl) rfl)) rfl (v := .ref (ad 35)) rfl d_M_isNear_60 ?_
        refine lv_iload hx hb d_M_isNear_63 (lv_at hl 6 rfl) ?_
        refine m_ld hx hb hK hm 35 rfl i rfl (show i < 10 from by omega) d_M_isNear_65 ?_
        refine W.eq (g2 := F0 m 66 ls [.int (nI (b.getD i 0)), .int (nI (a.getD i 0))]) (by rw [h35 i (by omega)]) ?_
        refine n_ne (tgt := 75) (a := a.getD i 0) (b := b.getD i 0) hx hb d_M_isNear_66 (by decide) (by omega) (by omega) (fun c66 => ?_) (fun c66 => ?_)
        · skip
          rw [dropT c42, dropT c49, cbS, if_neg c66] at hres
          have e9 : i = res := by omega
          rw [e9] at hl
          exact K H locs hm ls (lv_sub hl [0, 1, 2, 3, 4, 5, 6] rfl)
        · skip
          refine n_inc (a := i) (lv' := [(6, .int (nI (i + 1))), (0, .ref x), (1, .ref (ad jj)), (2, .int v2), (3, .int v3), (4, .int (nI a.length)), (5, .int (nI b.length))]) hx hb d_M_isNear_69 hl (k := 6) rfl (by decide) rfl (fun ls hl => ?_)
          refine lv_goto (tgt := 38) hx hb d_M_isNear_72 (by decide) ?_
          rw [dropT c42, dropT c49, cbS, if_pos c66] at hres
          exact ih (i + 1) H locs (by omega) (by omega) hm (by omega) ls (lv_sub hl [1, 2, 3, 4, 5, 6, 0] rfl)
set_option maxHeartbeats 4000000 in
set_option maxRecDepth 100000 in
theorem lp_M_isNear2 {p : Program} {l : Launch} {e : Env} {s : State} {m : MethodId} {args : Array Value} {below : List Frame} {meth : Method} {c : Code} {g : gG} {R : Room} {Q : State → Prop} (C0 : cF g p s m args meth c b_M_isNear 8 "RegistryLogModel" (some .boolean)) (hZ : zK g s s.heap) {x : Nat} {ad : Nat → Nat} {F : Nat → Int32} {A : Nat → Nat → Int32} {B : Nat → Nat → Int64} (a b : List Nat) (ha : a.length ≤ 10) (hb9 : b.length ≤ 10) (hca : ∀ k, a.getD k 0 < 128) (hcb : ∀ k, b.getD k 0 < 128) (h34 : ∀ q, q < a.length → A 34 q = nI (a.getD q 0)) (h35 : ∀ q, q < b.length → A 35 q = nI (b.getD q 0)) (jj : Nat) (v1 v2 v3 : Int32) (sm res : Nat) (hsa : sm ≤ a.length) (hsb : sm ≤ b.length) (K : ∀ (H : Heap) (locs : List Loc), mS g s.heap H x ad F A B locs → ∀ (ls : Array Slot), lv_has ls 8 [(0, .ref x), (1, .ref (ad jj)), (2, .int v2), (3, .int v3), (4, .int (nI a.length)), (5, .int (nI b.length)), (6, .int (nI sm)), (7, .int (nI res))] → W p l e R s m args below meth c H locs 0 0 Q (F0 m 131 ls [])) :
    ∀ (n i : Nat) (H : Heap) (locs : List Loc), i ≤ 10 → 10 + 1 ≤ i + n → mS g s.heap H x ad F A B locs → cbS ((a.drop sm).reverse.drop i) ((b.drop sm).reverse.drop i) + i = res → ∀ (ls : Array Slot), lv_has ls 8 [(0, .ref x), (1, .ref (ad jj)), (2, .int v2), (3, .int v3), (4, .int (nI a.length)), (5, .int (nI b.length)), (6, .int (nI sm)), (7, .int (nI i))] → W p l e R s m args below meth c H locs 0 0 Q (F0 m 78 ls []) := by
  obtain ⟨hx, hb, hml, hown, hts, hr, hlk, hK⟩ := id C0
  intro n
  induction n with
  | zero => intro i H locs h1 h2; exact absurd h2 (by omega)
  | succ n ih =>
    intro i H locs hi hin hm hres ls hl
    have hca1 := hca (a.length - 1 - i)
    have hcb1 := hcb (b.length - 1 - i)
    refine lv_iload hx hb d_M_isNear_78 (lv_at hl 7 rfl) ?_
    refine lv_iload hx hb d_M_isNear_80 (lv_at hl 4 rfl) ?_
    refine lv_iload hx hb d_M_isNear_82 (lv_at hl 6 rfl) ?_
    refine n_isub hx hb (by omega) d_M_isNear_84 ?_
    refine n_ge (tgt := 131) (a := i) (b := a.length - sm) hx hb d_M_isNear_85 (by decide) (by omega) (by omega) (fun c85 => ?_) (fun c85 => ?_)
    · skip
      rw [cb_end (by rw [List.length_reverse, List.length_reverse, List.length_drop, List.length_drop]; omega)] at hres
      have e9 : i = res := by omega
      rw [e9] at hl
      exact K H locs hm ls (lv_sub hl [0, 1, 2, 3, 4, 5, 6, 7] rfl)
    · skip
      refine lv_iload hx hb d_M_isNear_88 (lv_at hl 7 rfl) ?_
      refine lv_iload hx hb d_M_isNear_90 (lv_at hl 5 rfl) ?_
      refine lv_iload hx hb d_M_isNear_92 (lv_at hl 6 rfl) ?_
      refine n_isub hx hb (by omega) d_M_isNear_94 ?_
      refine n_ge (tgt := 131) (a := i) (b := b.length - sm) hx hb d_M_isNear_95 (by decide) (by omega) (by omega) (fun c95 => ?_) (fun c95 => ?_)
      · skip
        rw [cb_end (by rw [List.length_reverse, List.length_reverse, List.length_drop, List.length_drop]; omega)] at hres
        have e9 : i = res := by omega
        rw [e9] at hl
        exact K H locs hm ls (lv_sub hl [0, 1, 2, 3, 4, 5, 6, 7] rfl)
      · skip
        refine lv_aload_n hx hb d_M_isNear_98 rfl (lv_at hl 0 rfl) ?_
        refine m_get hx hb hts hown hK hm 34 (by decide) (hts (.fieldLink "RegistryLogModel" 86 "RegistryLogModel" "foldA" "[I") (in_5 (List.mem_of_getElem? (i := 3) rfl) rfl)) rfl (v := .ref (ad 34)) rfl d_M_isNear_99 ?_
        refine lv_iload hx hb d_M_isNear_102 (lv_at hl 4 rfl) ?_
        refine lv_iconst (v := nI 1) hx hb d_M_isNear_104 (by decide) ?_
        refine n_isub hx hb (by omega) d_M_isNear_105 ?_
        refine lv_iload hx hb d_M_isNear_106 (lv_at hl 7 rfl) ?_
        refine n_isub hx hb (by omega) d_M_isNear_108 ?_
        refine m_ld hx hb hK hm 34 rfl ((a.length - 1) - i) rfl (show (a.length - 1) - i < 10 from by omega) d_M_isNear_109 ?_
        refine W.eq (g2 := F0 m 110 ls [.int (nI (a.getD (a.length - 1 - i) 0))]) (by rw [h34 (a.length - 1 - i) (by omega)]) ?_
        refine lv_aload_n hx hb d_M_isNear_110 rfl (lv_at hl 0 rfl) ?_
        refine m_get hx hb hts hown hK hm 35 (by decide) (hts (.fieldLink "RegistryLogModel" 89 "RegistryLogModel" "foldB" "[I") (in_5 (List.mem_of_getElem? (i := 4) rfl) rfl)) rfl (v := .ref (ad 35)) rfl d_M_isNear_111 ?_
        refine lv_iload hx hb d_M_isNear_114 (lv_at hl 5 rfl) ?_
        refine lv_iconst (v := nI 1) hx hb d_M_isNear_116 (by decide) ?_
        refine n_isub hx hb (by omega) d_M_isNear_117 ?_
        refine lv_iload hx hb d_M_isNear_118 (lv_at hl 7 rfl) ?_
        refine n_isub hx hb (by omega) d_M_isNear_120 ?_
        refine m_ld hx hb hK hm 35 rfl ((b.length - 1) - i) rfl (show (b.length - 1) - i < 10 from by omega) d_M_isNear_121 ?_
        refine W.eq (g2 := F0 m 122 ls [.int (nI (b.getD (b.length - 1 - i) 0)), .int (nI (a.getD (a.length - 1 - i) 0))]) (by rw [h35 (b.length - 1 - i) (by omega)]) ?_
        refine n_ne (tgt := 131) (a := a.getD (a.length - 1 - i) 0) (b := b.getD (b.length - 1 - i) 0) hx hb d_M_isNear_122 (by decide) (by omega) (by omega) (fun c122 => ?_) (fun c122 => ?_)
        · skip
          rw [dropT (t := (a.drop sm).reverse) (by rw [List.length_reverse, List.length_drop]; omega), dropT (t := (b.drop sm).reverse) (by rw [List.length_reverse, List.length_drop]; omega), cbS, rd_at (by omega), rd_at (by omega), if_neg c122] at hres
          have e9 : i = res := by omega
          rw [e9] at hl
          exact K H locs hm ls (lv_sub hl [0, 1, 2, 3, 4, 5, 6, 7] rfl)
        · skip
          refine n_inc (a := i) (lv' := [(7, .int (nI (i + 1))), (0, .ref x), (1, .ref (ad jj)), (2, .int v2), (3, .int v3), (4, .int (nI a.length)), (5, .int (nI b.length)), (6, .int (nI sm))]) hx hb d_M_isNear_125 hl (k := 7) rfl (by decide) rfl (fun ls hl => ?_)
          refine lv_goto (tgt := 78) hx hb d_M_isNear_128 (by decide) ?_
          rw [dropT (t := (a.drop sm).reverse) (by rw [List.length_reverse, List.length_drop]; omega), dropT (t := (b.drop sm).reverse) (by rw [List.length_reverse, List.length_drop]; omega), cbS, rd_at (by omega), rd_at (by omega), if_pos c122] at hres
          exact ih (i + 1) H locs (by omega) (by omega) hm (by omega) ls (lv_sub hl [1, 2, 3, 4, 5, 6, 7, 0] rfl)
theorem fo_c {t : List Nat} (h : ∀ k, t.getD k 0 < 128) : ∀ k, (foldT t).getD k 0 < 128 := by
  have hm : ∀ c ∈ t, c < 128 := fun c hc => by
    obtain ⟨i, hi, e⟩ := List.getElem_of_mem hc
    have := h i
    rw [List.getD_eq_getElem?_getD, List.getElem?_eq_getElem hi, Option.getD_some, e] at this
    exact this
  exact fun k => ch_lt (fun c hc => hm c (List.mem_filter.mp hc).1) k
set_option maxHeartbeats 4000000 in
set_option maxRecDepth 100000 in
theorem c_M_isNear30 (l : Launch) (g : gG) (H : Heap) (x : Nat) (ad : Nat → Nat) (F : Nat → Int32) (A : Nat → Nat → Int32) (B : Nat → Nat → Int64) (hm0 : mW g H x ad F A B) (t u : List Nat) (k : Nat) (ht : t.length ≤ 10) (hu : u.length ≤ 10) (hk : k < 240) (htx : txt A 30 0 t) (hut : txt A 17 (10 * k) u) (hus : A 18 k = nI u.length) (hct : ∀ k, t.getD k 0 < 128) (hcu : ∀ k, u.getD k 0 < 128) : Met l y_M_isNear (wC y_M_isNear b_M_isNear 8 (some .boolean)) (rmk 1 0 0 25) (pC g H [.ref x, .ref (ad 30), .int (nI t.length), .int (nI k)]) (qM g H x ad (fun v F1 A1 B1 => v = some (.int (bI (nearM t u))) ∧ F1 = F ∧ (∃ f f2, A1 = updA (updA A 34 f) 35 f2) ∧ B1 = B)) 0 0 (mN x ad) := by
  refine mB (by decide) (Nat.le_of_ble_eq_true rfl) ?_
  intro p e s m below meth c ls C0 hH hZ hnm hl
  have C0 : cF g p s m _ meth c b_M_isNear 8 "RegistryLogModel" (some .boolean) := C0
  obtain ⟨hx, hb, hml, hown, hts, hr, hlk, hK⟩ := id C0
  subst hH
  have hl : lv_has ls 8 [(0, .ref x), (1, .ref (ad 30)), (2, .int (nI t.length)), (3, .int (nI k))] := hl
  have hm := mS.rf hm0
  refine lv_aload_n hx hb d_M_isNear_0 rfl (lv_at hl 1 rfl) ?_
  refine lv_iconst (v := nI 0) hx hb d_M_isNear_1 (by decide) ?_
  refine lv_iload_n hx hb d_M_isNear_2 rfl (lv_at hl 2 rfl) ?_
  refine lv_aload_n hx hb d_M_isNear_3 rfl (lv_at hl 0 rfl) ?_
  refine m_get hx hb hts hown hK hm 34 (by decide) (hts (.fieldLink "RegistryLogModel" 86 "RegistryLogModel" "foldA" "[I") (in_5 (List.mem_of_getElem? (i := 3) rfl) rfl)) rfl (v := .ref (ad 34)) rfl d_M_isNear_4 ?_
  refine aM (rS (As := [.ref (ad 30), .int (nI 0), .int (nI t.length), .ref (ad 34)]) (rest := []) C0 (c_M_fold30 l g _ x ad _ _ _ hm.1 0 t ht (by omega) htx hct) (m_zK hZ hm) k_M_isNear_7 rfl rfl ⟨Nat.le_of_ble_eq_true rfl, Nat.le_of_ble_eq_true rfl⟩ rfl hl.1 rfl (Nat.le_of_ble_eq_true rfl) d_M_isNear_7 ⟨Nat.zero_le _, Nat.zero_le _⟩) hm (fun v F1 A1 B1 H locs hp hm => ?_)
  obtain ⟨rfl, eF, ⟨f, eA, hf⟩, eB⟩ := hp; rw [eF, eA, eB] at hm
  refine W.eq (g2 := F0 m 10 ls [.int (nI ((foldT t).length))]) rfl ?_
  refine lv_istore (lv' := [(4, .int (nI ((foldT t).length))), (0, .ref x), (1, .ref (ad 30)), (2, .int (nI t.length)), (3, .int (nI k))]) hx hb d_M_isNear_10 hl (by decide) rfl (fun ls hl => ?_)
  refine lv_aload_n hx hb d_M_isNear_12 rfl (lv_at hl 1 rfl) ?_
  refine m_get hx hb hts hown hK hm 17 (by decide) (hts (.fieldLink "RegistryLogModel" 50 "RegistryLogModel" "nameLetters" "[I") (in_4 (List.mem_of_getElem? (i := 226) rfl) rfl)) rfl (v := .ref (ad 17)) rfl d_M_isNear_13 ?_
  refine lv_bipush (v := nI 10) hx hb d_M_isNear_16 (by decide) ?_
  refine lv_iload_n hx hb d_M_isNear_18 rfl (lv_at hl 4 rfl) ?_
  refine n_imul hx hb d_M_isNear_19 ?_
  refine lv_aload_n hx hb d_M_isNear_20 rfl (lv_at hl 1 rfl) ?_
  refine m_get hx hb hts hown hK hm 18 (by decide) (hts (.fieldLink "RegistryLogModel" 53 "RegistryLogModel" "nameSize" "[I") (in_4 (List.mem_of_getElem? (i := 227) rfl) rfl)) rfl (v := .ref (ad 18)) rfl d_M_isNear_21 ?_
  refine lv_iload_n hx hb d_M_isNear_24 rfl (lv_at hl 4 rfl) ?_
  refine m_ld hx hb hK hm 18 rfl k rfl (show k < 240 from by omega) d_M_isNear_25 ?_
  refine W.eq (g2 := F0 m 26 ls [.int (A 18 k), .int (nI (10 * k)), .ref (ad 17)]) rfl ?_
  refine W.eq (g2 := F0 m 26 ls [.int (nI u.length), .int (nI (10 * k)), .ref (ad 17)]) (by rw [hus]) ?_
  refine lv_aload_n hx hb d_M_isNear_26 rfl (lv_at hl 1 rfl) ?_
  refine m_get hx hb hts hown hK hm 35 (by decide) (hts (.fieldLink "RegistryLogModel" 89 "RegistryLogModel" "foldB" "[I") (in_5 (List.mem_of_getElem? (i := 4) rfl) rfl)) rfl (v := .ref (ad 35)) rfl d_M_isNear_27 ?_
  refine aM (rS (As := [.ref (ad 17), .int (nI (10 * k)), .int (nI u.length), .ref (ad 35)]) (rest := []) C0 (c_M_fold17 l g _ x ad _ _ _ hm.1 (10 * k) u hu (by omega) hut hcu) (m_zK hZ hm) k_M_isNear_30 rfl rfl ⟨Nat.le_of_ble_eq_true rfl, Nat.le_of_ble_eq_true rfl⟩ rfl hl.1 rfl (Nat.le_of_ble_eq_true rfl) d_M_isNear_30 ⟨Nat.zero_le _, Nat.zero_le _⟩) hm (fun v F1 A1 B1 H locs hp hm => ?_)
  obtain ⟨rfl, eF, ⟨f2, eA, hf2⟩, eB⟩ := hp; rw [eF, eA, eB] at hm
  refine W.eq (g2 := F0 m 33 ls [.int (nI ((foldT u).length))]) rfl ?_
  refine lv_istore (lv' := [(5, .int (nI ((foldT u).length))), (4, .int (nI ((foldT t).length))), (0, .ref x), (1, .ref (ad 30)), (2, .int (nI t.length)), (3, .int (nI k))]) hx hb d_M_isNear_33 hl (by decide) rfl (fun ls hl => ?_)
  refine lv_iconst (v := nI 0) hx hb d_M_isNear_35 (by decide) ?_
  refine lv_istore (lv' := [(6, .int (nI 0)), (5, .int (nI ((foldT u).length))), (4, .int (nI ((foldT t).length))), (0, .ref x), (1, .ref (ad 30)), (2, .int (nI t.length)), (3, .int (nI k))]) hx hb d_M_isNear_36 hl (by decide) rfl (fun ls hl => ?_)
  have q1 := cbS_le (foldT t) (foldT u)
  have q2 := cbS_le2 (foldT t) (foldT u)
  have q3 := fo_le2 t
  have q4 := fo_le2 u
  refine lp_M_isNear1 C0 hZ (A := updA (updA A 34 f) 35 f2) (foldT t) (foldT u) (by have := fo_le2 t; omega) (by have := fo_le2 u; omega) (fo_c hct) (fo_c hcu) hf hf2 30 0 (nI t.length) (nI k) (cbS (foldT t) (foldT u)) (fun H locs hm ls hl => ?_) 11 0 H locs (by omega) (by omega) hm (by rw [List.drop_zero, List.drop_zero]; rfl) ls (lv_sub hl [3, 4, 5, 6, 2, 1, 0] rfl)
  refine lv_iconst (v := nI 0) hx hb d_M_isNear_75 (by decide) ?_
  refine lv_istore (lv' := [(7, .int (nI 0)), (0, .ref x), (1, .ref (ad 30)), (2, .int (nI t.length)), (3, .int (nI k)), (4, .int (nI ((foldT t).length))), (5, .int (nI ((foldT u).length))), (6, .int (nI (cbS (foldT t) (foldT u))))]) hx hb d_M_isNear_76 hl (by decide) rfl (fun ls hl => ?_)
  obtain ⟨sm, esm⟩ : ∃ sm, sm = cbS (foldT t) (foldT u) := ⟨_, rfl⟩
  have hne : nearM t u = decide ((foldT t).length - sm - cbS ((foldT t).drop sm).reverse ((foldT u).drop sm).reverse ≤ 1 ∧ (foldT u).length - sm - cbS ((foldT t).drop sm).reverse ((foldT u).drop sm).reverse ≤ 1) := by rw [nearM, ← esm]
  rw [← esm] at hl q1 q2
  have q5 := cbS_le ((foldT t).drop sm).reverse ((foldT u).drop sm).reverse
  have q6 := cbS_le2 ((foldT t).drop sm).reverse ((foldT u).drop sm).reverse
  rw [List.length_reverse, List.length_drop] at q5 q6
  refine lp_M_isNear2 C0 hZ (A := updA (updA A 34 f) 35 f2) (foldT t) (foldT u) (by have := fo_le2 t; omega) (by have := fo_le2 u; omega) (fo_c hct) (fo_c hcu) hf hf2 30 0 (nI t.length) (nI k) sm (cbS ((foldT t).drop sm).reverse ((foldT u).drop sm).reverse) q1 q2 (fun H locs hm ls hl => ?_) 11 0 H locs (by omega) (by omega) hm (by rw [List.drop_zero, List.drop_zero]; rfl) ls (lv_sub hl [1, 2, 3, 4, 5, 6, 7, 0] rfl)
  obtain ⟨bk, ebk⟩ : ∃ bk, bk = cbS ((foldT t).drop sm).reverse ((foldT u).drop sm).reverse := ⟨_, rfl⟩
  rw [← ebk] at hl hne q5 q6
  refine lv_iload hx hb d_M_isNear_131 (lv_at hl 4 rfl) ?_
  refine lv_iload hx hb d_M_isNear_133 (lv_at hl 6 rfl) ?_
  refine n_isub hx hb (by omega) d_M_isNear_135 ?_
  refine lv_iload hx hb d_M_isNear_136 (lv_at hl 7 rfl) ?_
  refine n_isub hx hb (by omega) d_M_isNear_138 ?_
  refine lv_iconst (v := nI 1) hx hb d_M_isNear_139 (by decide) ?_
  refine n_gt (tgt := 159) (a := (((foldT t).length) - sm) - bk) (b := 1) hx hb d_M_isNear_140 (by decide) (by omega) (by omega) (fun c140 => ?_) (fun c140 => ?_)
  · skip
    refine lv_iconst (v := nI 0) hx hb d_M_isNear_159 (by decide) ?_
    exact W.zret hx hb hr rfl (fun t9 ht hW => ⟨_, _, _, _, rfl, by rw [ht]; exact ⟨hm.1, hm.2.1, hm.2.2.1, fun _ h => by cases h⟩, ⟨by rw [hne, decide_eq_false (fun z => absurd z.1 (by omega))]; rfl, rfl, ⟨_, _, rfl⟩, rfl⟩⟩) hm.2.2.2 d_M_isNear_160 hlk
  · skip
    refine lv_iload hx hb d_M_isNear_143 (lv_at hl 5 rfl) ?_
    refine lv_iload hx hb d_M_isNear_145 (lv_at hl 6 rfl) ?_
    refine n_isub hx hb (by omega) d_M_isNear_147 ?_
    refine lv_iload hx hb d_M_isNear_148 (lv_at hl 7 rfl) ?_
    refine n_isub hx hb (by omega) d_M_isNear_150 ?_
    refine lv_iconst (v := nI 1) hx hb d_M_isNear_151 (by decide) ?_
    refine n_gt (tgt := 159) (a := (((foldT u).length) - sm) - bk) (b := 1) hx hb d_M_isNear_152 (by decide) (by omega) (by omega) (fun c152 => ?_) (fun c152 => ?_)
    · skip
      refine lv_iconst (v := nI 0) hx hb d_M_isNear_159 (by decide) ?_
      exact W.zret hx hb hr rfl (fun t9 ht hW => ⟨_, _, _, _, rfl, by rw [ht]; exact ⟨hm.1, hm.2.1, hm.2.2.1, fun _ h => by cases h⟩, ⟨by rw [hne, decide_eq_false (fun z => absurd z.2 (by omega))]; rfl, rfl, ⟨_, _, rfl⟩, rfl⟩⟩) hm.2.2.2 d_M_isNear_160 hlk
    · skip
      refine lv_iconst (v := nI 1) hx hb d_M_isNear_155 (by decide) ?_
      refine lv_goto (tgt := 160) hx hb d_M_isNear_156 (by decide) ?_
      exact W.zret hx hb hr rfl (fun t9 ht hW => ⟨_, _, _, _, rfl, by rw [ht]; exact ⟨hm.1, hm.2.1, hm.2.2.1, fun _ h => by cases h⟩, ⟨by rw [hne, decide_eq_true ⟨by omega, by omega⟩]; rfl, rfl, ⟨_, _, rfl⟩, rfl⟩⟩) hm.2.2.2 d_M_isNear_160 hlk
set_option maxHeartbeats 4000000 in
set_option maxRecDepth 100000 in
theorem c_M_isNear31 (l : Launch) (g : gG) (H : Heap) (x : Nat) (ad : Nat → Nat) (F : Nat → Int32) (A : Nat → Nat → Int32) (B : Nat → Nat → Int64) (hm0 : mW g H x ad F A B) (t u : List Nat) (k : Nat) (ht : t.length ≤ 10) (hu : u.length ≤ 10) (hk : k < 240) (htx : txt A 31 0 t) (hut : txt A 17 (10 * k) u) (hus : A 18 k = nI u.length) (hct : ∀ k, t.getD k 0 < 128) (hcu : ∀ k, u.getD k 0 < 128) : Met l y_M_isNear (wC y_M_isNear b_M_isNear 8 (some .boolean)) (rmk 1 0 0 25) (pC g H [.ref x, .ref (ad 31), .int (nI t.length), .int (nI k)]) (qM g H x ad (fun v F1 A1 B1 => v = some (.int (bI (nearM t u))) ∧ F1 = F ∧ (∃ f f2, A1 = updA (updA A 34 f) 35 f2) ∧ B1 = B)) 0 0 (mN x ad) := by
  refine mB (by decide) (Nat.le_of_ble_eq_true rfl) ?_
  intro p e s m below meth c ls C0 hH hZ hnm hl
  have C0 : cF g p s m _ meth c b_M_isNear 8 "RegistryLogModel" (some .boolean) := C0
  obtain ⟨hx, hb, hml, hown, hts, hr, hlk, hK⟩ := id C0
  subst hH
  have hl : lv_has ls 8 [(0, .ref x), (1, .ref (ad 31)), (2, .int (nI t.length)), (3, .int (nI k))] := hl
  have hm := mS.rf hm0
  refine lv_aload_n hx hb d_M_isNear_0 rfl (lv_at hl 1 rfl) ?_
  refine lv_iconst (v := nI 0) hx hb d_M_isNear_1 (by decide) ?_
  refine lv_iload_n hx hb d_M_isNear_2 rfl (lv_at hl 2 rfl) ?_
  refine lv_aload_n hx hb d_M_isNear_3 rfl (lv_at hl 0 rfl) ?_
  refine m_get hx hb hts hown hK hm 34 (by decide) (hts (.fieldLink "RegistryLogModel" 86 "RegistryLogModel" "foldA" "[I") (in_5 (List.mem_of_getElem? (i := 3) rfl) rfl)) rfl (v := .ref (ad 34)) rfl d_M_isNear_4 ?_
  refine aM (rS (As := [.ref (ad 31), .int (nI 0), .int (nI t.length), .ref (ad 34)]) (rest := []) C0 (c_M_fold31 l g _ x ad _ _ _ hm.1 0 t ht (by omega) htx hct) (m_zK hZ hm) k_M_isNear_7 rfl rfl ⟨Nat.le_of_ble_eq_true rfl, Nat.le_of_ble_eq_true rfl⟩ rfl hl.1 rfl (Nat.le_of_ble_eq_true rfl) d_M_isNear_7 ⟨Nat.zero_le _, Nat.zero_le _⟩) hm (fun v F1 A1 B1 H locs hp hm => ?_)
  obtain ⟨rfl, eF, ⟨f, eA, hf⟩, eB⟩ := hp; rw [eF, eA, eB] at hm
  refine W.eq (g2 := F0 m 10 ls [.int (nI ((foldT t).length))]) rfl ?_
  refine lv_istore (lv' := [(4, .int (nI ((foldT t).length))), (0, .ref x), (1, .ref (ad 31)), (2, .int (nI t.length)), (3, .int (nI k))]) hx hb d_M_isNear_10 hl (by decide) rfl (fun ls hl => ?_)
  refine lv_aload_n hx hb d_M_isNear_12 rfl (lv_at hl 1 rfl) ?_
  refine m_get hx hb hts hown hK hm 17 (by decide) (hts (.fieldLink "RegistryLogModel" 50 "RegistryLogModel" "nameLetters" "[I") (in_4 (List.mem_of_getElem? (i := 226) rfl) rfl)) rfl (v := .ref (ad 17)) rfl d_M_isNear_13 ?_
  refine lv_bipush (v := nI 10) hx hb d_M_isNear_16 (by decide) ?_
  refine lv_iload_n hx hb d_M_isNear_18 rfl (lv_at hl 4 rfl) ?_
  refine n_imul hx hb d_M_isNear_19 ?_
  refine lv_aload_n hx hb d_M_isNear_20 rfl (lv_at hl 1 rfl) ?_
  refine m_get hx hb hts hown hK hm 18 (by decide) (hts (.fieldLink "RegistryLogModel" 53 "RegistryLogModel" "nameSize" "[I") (in_4 (List.mem_of_getElem? (i := 227) rfl) rfl)) rfl (v := .ref (ad 18)) rfl d_M_isNear_21 ?_
  refine lv_iload_n hx hb d_M_isNear_24 rfl (lv_at hl 4 rfl) ?_
  refine m_ld hx hb hK hm 18 rfl k rfl (show k < 240 from by omega) d_M_isNear_25 ?_
  refine W.eq (g2 := F0 m 26 ls [.int (A 18 k), .int (nI (10 * k)), .ref (ad 17)]) rfl ?_
  refine W.eq (g2 := F0 m 26 ls [.int (nI u.length), .int (nI (10 * k)), .ref (ad 17)]) (by rw [hus]) ?_
  refine lv_aload_n hx hb d_M_isNear_26 rfl (lv_at hl 1 rfl) ?_
  refine m_get hx hb hts hown hK hm 35 (by decide) (hts (.fieldLink "RegistryLogModel" 89 "RegistryLogModel" "foldB" "[I") (in_5 (List.mem_of_getElem? (i := 4) rfl) rfl)) rfl (v := .ref (ad 35)) rfl d_M_isNear_27 ?_
  refine aM (rS (As := [.ref (ad 17), .int (nI (10 * k)), .int (nI u.length), .ref (ad 35)]) (rest := []) C0 (c_M_fold17 l g _ x ad _ _ _ hm.1 (10 * k) u hu (by omega) hut hcu) (m_zK hZ hm) k_M_isNear_30 rfl rfl ⟨Nat.le_of_ble_eq_true rfl, Nat.le_of_ble_eq_true rfl⟩ rfl hl.1 rfl (Nat.le_of_ble_eq_true rfl) d_M_isNear_30 ⟨Nat.zero_le _, Nat.zero_le _⟩) hm (fun v F1 A1 B1 H locs hp hm => ?_)
  obtain ⟨rfl, eF, ⟨f2, eA, hf2⟩, eB⟩ := hp; rw [eF, eA, eB] at hm
  refine W.eq (g2 := F0 m 33 ls [.int (nI ((foldT u).length))]) rfl ?_
  refine lv_istore (lv' := [(5, .int (nI ((foldT u).length))), (4, .int (nI ((foldT t).length))), (0, .ref x), (1, .ref (ad 31)), (2, .int (nI t.length)), (3, .int (nI k))]) hx hb d_M_isNear_33 hl (by decide) rfl (fun ls hl => ?_)
  refine lv_iconst (v := nI 0) hx hb d_M_isNear_35 (by decide) ?_
  refine lv_istore (lv' := [(6, .int (nI 0)), (5, .int (nI ((foldT u).length))), (4, .int (nI ((foldT t).length))), (0, .ref x), (1, .ref (ad 31)), (2, .int (nI t.length)), (3, .int (nI k))]) hx hb d_M_isNear_36 hl (by decide) rfl (fun ls hl => ?_)
  have q1 := cbS_le (foldT t) (foldT u)
  have q2 := cbS_le2 (foldT t) (foldT u)
  have q3 := fo_le2 t
  have q4 := fo_le2 u
  refine lp_M_isNear1 C0 hZ (A := updA (updA A 34 f) 35 f2) (foldT t) (foldT u) (by have := fo_le2 t; omega) (by have := fo_le2 u; omega) (fo_c hct) (fo_c hcu) hf hf2 31 0 (nI t.length) (nI k) (cbS (foldT t) (foldT u)) (fun H locs hm ls hl => ?_) 11 0 H locs (by omega) (by omega) hm (by rw [List.drop_zero, List.drop_zero]; rfl) ls (lv_sub hl [3, 4, 5, 6, 2, 1, 0] rfl)
  refine lv_iconst (v := nI 0) hx hb d_M_isNear_75 (by decide) ?_
  refine lv_istore (lv' := [(7, .int (nI 0)), (0, .ref x), (1, .ref (ad 31)), (2, .int (nI t.length)), (3, .int (nI k)), (4, .int (nI ((foldT t).length))), (5, .int (nI ((foldT u).length))), (6, .int (nI (cbS (foldT t) (foldT u))))]) hx hb d_M_isNear_76 hl (by decide) rfl (fun ls hl => ?_)
  obtain ⟨sm, esm⟩ : ∃ sm, sm = cbS (foldT t) (foldT u) := ⟨_, rfl⟩
  have hne : nearM t u = decide ((foldT t).length - sm - cbS ((foldT t).drop sm).reverse ((foldT u).drop sm).reverse ≤ 1 ∧ (foldT u).length - sm - cbS ((foldT t).drop sm).reverse ((foldT u).drop sm).reverse ≤ 1) := by rw [nearM, ← esm]
  rw [← esm] at hl q1 q2
  have q5 := cbS_le ((foldT t).drop sm).reverse ((foldT u).drop sm).reverse
  have q6 := cbS_le2 ((foldT t).drop sm).reverse ((foldT u).drop sm).reverse
  rw [List.length_reverse, List.length_drop] at q5 q6
  refine lp_M_isNear2 C0 hZ (A := updA (updA A 34 f) 35 f2) (foldT t) (foldT u) (by have := fo_le2 t; omega) (by have := fo_le2 u; omega) (fo_c hct) (fo_c hcu) hf hf2 31 0 (nI t.length) (nI k) sm (cbS ((foldT t).drop sm).reverse ((foldT u).drop sm).reverse) q1 q2 (fun H locs hm ls hl => ?_) 11 0 H locs (by omega) (by omega) hm (by rw [List.drop_zero, List.drop_zero]; rfl) ls (lv_sub hl [1, 2, 3, 4, 5, 6, 7, 0] rfl)
  obtain ⟨bk, ebk⟩ : ∃ bk, bk = cbS ((foldT t).drop sm).reverse ((foldT u).drop sm).reverse := ⟨_, rfl⟩
  rw [← ebk] at hl hne q5 q6
  refine lv_iload hx hb d_M_isNear_131 (lv_at hl 4 rfl) ?_
  refine lv_iload hx hb d_M_isNear_133 (lv_at hl 6 rfl) ?_
  refine n_isub hx hb (by omega) d_M_isNear_135 ?_
  refine lv_iload hx hb d_M_isNear_136 (lv_at hl 7 rfl) ?_
  refine n_isub hx hb (by omega) d_M_isNear_138 ?_
  refine lv_iconst (v := nI 1) hx hb d_M_isNear_139 (by decide) ?_
  refine n_gt (tgt := 159) (a := (((foldT t).length) - sm) - bk) (b := 1) hx hb d_M_isNear_140 (by decide) (by omega) (by omega) (fun c140 => ?_) (fun c140 => ?_)
  · skip
    refine lv_iconst (v := nI 0) hx hb d_M_isNear_159 (by decide) ?_
    exact W.zret hx hb hr rfl (fun t9 ht hW => ⟨_, _, _, _, rfl, by rw [ht]; exact ⟨hm.1, hm.2.1, hm.2.2.1, fun _ h => by cases h⟩, ⟨by rw [hne, decide_eq_false (fun z => absurd z.1 (by omega))]; rfl, rfl, ⟨_, _, rfl⟩, rfl⟩⟩) hm.2.2.2 d_M_isNear_160 hlk
  · skip
    refine lv_iload hx hb d_M_isNear_143 (lv_at hl 5 rfl) ?_
    refine lv_iload hx hb d_M_isNear_145 (lv_at hl 6 rfl) ?_
    refine n_isub hx hb (by omega) d_M_isNear_147 ?_
    refine lv_iload hx hb d_M_isNear_148 (lv_at hl 7 rfl) ?_
    refine n_isub hx hb (by omega) d_M_isNear_150 ?_
    refine lv_iconst (v := nI 1) hx hb d_M_isNear_151 (by decide) ?_
    refine n_gt (tgt := 159) (a := (((foldT u).length) - sm) - bk) (b := 1) hx hb d_M_isNear_152 (by decide) (by omega) (by omega) (fun c152 => ?_) (fun c152 => ?_)
    · skip
      refine lv_iconst (v := nI 0) hx hb d_M_isNear_159 (by decide) ?_
      exact W.zret hx hb hr rfl (fun t9 ht hW => ⟨_, _, _, _, rfl, by rw [ht]; exact ⟨hm.1, hm.2.1, hm.2.2.1, fun _ h => by cases h⟩, ⟨by rw [hne, decide_eq_false (fun z => absurd z.2 (by omega))]; rfl, rfl, ⟨_, _, rfl⟩, rfl⟩⟩) hm.2.2.2 d_M_isNear_160 hlk
    · skip
      refine lv_iconst (v := nI 1) hx hb d_M_isNear_155 (by decide) ?_
      refine lv_goto (tgt := 160) hx hb d_M_isNear_156 (by decide) ?_
      exact W.zret hx hb hr rfl (fun t9 ht hW => ⟨_, _, _, _, rfl, by rw [ht]; exact ⟨hm.1, hm.2.1, hm.2.2.1, fun _ h => by cases h⟩, ⟨by rw [hne, decide_eq_true ⟨by omega, by omega⟩]; rfl, rfl, ⟨_, _, rfl⟩, rfl⟩⟩) hm.2.2.2 d_M_isNear_160 hlk
end
section
theorem k_M_isFree_4 : kV "RegistryLogModel" 142 "RegistryLogModel" y_M_met b_M_met 8 (some .int) 3 := ⟨(in_5 (List.mem_of_getElem? (i := 143) rfl) rfl), (in_5 (List.mem_of_getElem? (i := 145) rfl) rfl), (in_0 (List.mem_of_getElem? (i := 9) rfl) rfl), (in_1 (List.mem_of_getElem? (i := 22) rfl) rfl), (in_5 (List.mem_of_getElem? (i := 146) rfl) rfl), ⟨by decide, by decide, by decide +kernel⟩⟩
theorem k_M_isFree_57 : kV "RegistryLogModel" 157 "RegistryLogModel" y_M_isNear b_M_isNear 8 (some .boolean) 3 := ⟨(in_5 (List.mem_of_getElem? (i := 159) rfl) rfl), (in_5 (List.mem_of_getElem? (i := 161) rfl) rfl), (in_0 (List.mem_of_getElem? (i := 13) rfl) rfl), (in_1 (List.mem_of_getElem? (i := 22) rfl) rfl), (in_5 (List.mem_of_getElem? (i := 162) rfl) rfl), ⟨by decide, by decide, by decide +kernel⟩⟩
def frM (S : Nat → Int32) (t : List Nat) (NT : Nat → List Nat) (but : Int32) : Nat → Nat → Bool → Bool
  | 0, _, b => b
  | n + 1, k, b => if b then frM S t NT but n (k + 1) (decide (nI k = but) || (!decide (S k = nI 1) || !nearM t (NT k))) else b
theorem frM_f (S : Nat → Int32) (t : List Nat) (NT : Nat → List Nat) (but : Int32) : ∀ n k, frM S t NT but n k false = false
  | 0, _ => rfl
  | n + 1, k => rfl
theorem updA4 (A : Nat → Nat → Int32) (f f2 f3 f4 : Nat → Int32) : updA (updA (updA (updA A 34 f) 35 f2) 34 f3) 35 f4 = updA (updA A 34 f3) 35 f4 := by
  funext k
  unfold updA
  by_cases h : k = 35 <;> by_cases h2 : k = 34 <;> simp [h, h2]
theorem updA_id2 (A : Nat → Nat → Int32) : updA (updA A 34 (A 34)) 35 (A 35) = A := by
  rw [updA_id, updA_id]
/-- the names' table: cn names with the texts NT -/
def repN (F : Nat → Int32) (A : Nat → Nat → Int32) (cn : Nat) (NT : Nat → List Nat) : Prop := F 27 = nI cn ∧ cn ≤ 240 ∧ ∀ k, k < cn → (NT k).length ≤ 10 ∧ txt A 17 (10 * k) (NT k) ∧ A 18 k = nI (NT k).length ∧ ∀ i, (NT k).getD i 0 < 128
set_option maxHeartbeats 4000000 in
set_option maxRecDepth 100000 in
theorem lp_M_isFree30 {p : Program} {l : Launch} {e : Env} {s : State} {m : MethodId} {args : Array Value} {below : List Frame} {meth : Method} {c : Code} {g : gG} (C0 : cF g p s m args meth c b_M_isFree 6 "RegistryLogModel" (some .boolean)) (hZ : zK g s s.heap) {x : Nat} {ad : Nat → Nat} {F : Nat → Int32} {A : Nat → Nat → Int32} {B : Nat → Nat → Int64} (t : List Nat) (cn : Nat) (NT : Nat → List Nat) (ht : t.length ≤ 10) (htx : txt A 30 0 t) (hct : ∀ k, t.getD k 0 < 128) (hrep : repN F A cn NT) (but : Int32) (res : Bool) :
    ∀ (n i : Nat) (b0 : Bool) (f f2 : Nat → Int32) (H : Heap) (locs : List Loc), i ≤ cn → cn + 1 ≤ i + n → mS g s.heap H x ad F (updA (updA A 34 f) 35 f2) B locs → frM (A 19) t NT but (cn - i) i b0 = res → ∀ (ls : Array Slot), lv_has ls 6 [(0, .ref x), (1, .ref (ad 30)), (2, .int (nI t.length)), (3, .int but), (4, .int (bI b0)), (5, .int (nI i))] → W p l e (rmk 2 0 0 52) s m args below meth c H locs 0 0 (MQ below (qM g s.heap x ad (fun v F1 A1 B1 => v = some (.int (bI res)) ∧ F1 = F ∧ (∃ f f2, A1 = updA (updA A 34 f) 35 f2) ∧ B1 = B)) args s 0 0 (mN x ad)) (F0 m 21 ls []) := by
  obtain ⟨hx, hb, hml, hown, hts, hr, hlk, hK⟩ := id C0
  obtain ⟨hcn, hcn2, hnt⟩ := hrep
  intro n
  induction n with
  | zero => intro i b0 f f2 H locs h1 h2; exact absurd h2 (by omega)
  | succ n ih =>
    intro i b0 f f2 H locs hi hin hm hres ls hl
    refine lv_iload hx hb d_M_isFree_21 (lv_at hl 5 rfl) ?_
    refine lv_aload_n hx hb d_M_isFree_23 rfl (lv_at hl 0 rfl) ?_
    refine m_get hx hb hts hown hK hm 27 (by decide) (hts (.fieldLink "RegistryLogModel" 133 "RegistryLogModel" "names" "I") (in_4 (List.mem_of_getElem? (i := 236) rfl) rfl)) rfl (v := .int (nI cn)) (congrArg (fun z => some (Value.int z)) hcn) d_M_isFree_24 ?_
    refine n_ge (tgt := 76) (a := i) (b := cn) hx hb d_M_isFree_27 (by decide) (by omega) (by omega) (fun c27 => ?_) (fun c27 => ?_)
    · skip
      refine lv_iload hx hb d_M_isFree_76 (lv_at hl 4 rfl) ?_
      rw [show cn - i = 0 by omega, frM] at hres
      exact W.zret hx hb hr (by cases b0 <;> rfl) (fun t9 ht hW => ⟨_, _, _, _, rfl, by rw [ht]; exact ⟨hm.1, hm.2.1, hm.2.2.1, fun _ h => by cases h⟩, ⟨by rw [← hres], rfl, ⟨_, _, rfl⟩, rfl⟩⟩) hm.2.2.2 d_M_isFree_78 hlk
    · skip
      refine lv_iload hx hb d_M_isFree_30 (lv_at hl 4 rfl) ?_
      refine z_eq (tgt := 76) (v := b0) hx hb d_M_isFree_32 (by decide) (fun c32 => ?_) (fun c32 => ?_)
      · skip
        refine lv_iload hx hb d_M_isFree_76 (lv_at hl 4 rfl) ?_
        rw [c32, frM_f, ← c32] at hres
        exact W.zret hx hb hr (by cases b0 <;> rfl) (fun t9 ht hW => ⟨_, _, _, _, rfl, by rw [ht]; exact ⟨hm.1, hm.2.1, hm.2.2.1, fun _ h => by cases h⟩, ⟨by rw [← hres], rfl, ⟨_, _, rfl⟩, rfl⟩⟩) hm.2.2.2 d_M_isFree_78 hlk
      · skip
        refine lv_iload hx hb d_M_isFree_35 (lv_at hl 5 rfl) ?_
        refine lv_iload_n hx hb d_M_isFree_37 rfl (lv_at hl 3 rfl) ?_
        refine lv_icmp_eq (tgt := 63) hx hb d_M_isFree_38 (by decide) (fun c38 => ?_) (fun c38 => ?_)
        · skip
          refine lv_iconst (v := nI 1) hx hb d_M_isFree_63 (by decide) ?_
          refine lv_goto (tgt := 68) hx hb d_M_isFree_64 (by decide) ?_
          refine lv_istore (lv' := [(4, .int (nI 1)), (0, .ref x), (1, .ref (ad 30)), (2, .int (nI t.length)), (3, .int but), (5, .int (nI i))]) hx hb d_M_isFree_68 hl (by decide) rfl (fun ls hl => ?_)
          refine n_inc (a := i) (lv' := [(5, .int (nI (i + 1))), (4, .int (nI 1)), (0, .ref x), (1, .ref (ad 30)), (2, .int (nI t.length)), (3, .int but)]) hx hb d_M_isFree_70 hl (k := 5) rfl (by decide) rfl (fun ls hl => ?_)
          refine lv_goto (tgt := 21) hx hb d_M_isFree_73 (by decide) ?_
          have e8 : (decide (nI i = but) || (!decide (A 19 i = nI 1) || !nearM t (NT i))) = true := by rw [decide_eq_true c38]; rfl
          rw [show cn - i = (cn - (i + 1)) + 1 by omega, frM, c32, if_pos rfl, e8] at hres
          exact ih (i + 1) true _ _ H locs (by omega) (by omega) hm hres ls (lv_sub hl [2, 3, 4, 5, 1, 0] rfl)
        · skip
          refine lv_aload_n hx hb d_M_isFree_41 rfl (lv_at hl 0 rfl) ?_
          refine m_get hx hb hts hown hK hm 19 (by decide) (hts (.fieldLink "RegistryLogModel" 56 "RegistryLogModel" "nameState" "[I") (in_4 (List.mem_of_getElem? (i := 228) rfl) rfl)) rfl (v := .ref (ad 19)) rfl d_M_isFree_42 ?_
          refine lv_iload hx hb d_M_isFree_45 (lv_at hl 5 rfl) ?_
          refine m_ld hx hb hK hm 19 rfl i rfl (show i < 240 from by omega) d_M_isFree_47 ?_
          refine W.eq (g2 := F0 m 48 ls [.int (A 19 i)]) rfl ?_
          refine lv_iconst (v := nI 1) hx hb d_M_isFree_48 (by decide) ?_
          refine lv_icmp_ne (tgt := 63) hx hb d_M_isFree_49 (by decide) (fun c49 => ?_) (fun c49 => ?_)
          · skip
            refine lv_iconst (v := nI 1) hx hb d_M_isFree_63 (by decide) ?_
            refine lv_goto (tgt := 68) hx hb d_M_isFree_64 (by decide) ?_
            refine lv_istore (lv' := [(4, .int (nI 1)), (0, .ref x), (1, .ref (ad 30)), (2, .int (nI t.length)), (3, .int but), (5, .int (nI i))]) hx hb d_M_isFree_68 hl (by decide) rfl (fun ls hl => ?_)
            refine n_inc (a := i) (lv' := [(5, .int (nI (i + 1))), (4, .int (nI 1)), (0, .ref x), (1, .ref (ad 30)), (2, .int (nI t.length)), (3, .int but)]) hx hb d_M_isFree_70 hl (k := 5) rfl (by decide) rfl (fun ls hl => ?_)
            refine lv_goto (tgt := 21) hx hb d_M_isFree_73 (by decide) ?_
            have e8 : (decide (nI i = but) || (!decide (A 19 i = nI 1) || !nearM t (NT i))) = true := by rw [decide_eq_false c38, decide_eq_false c49]; rfl
            rw [show cn - i = (cn - (i + 1)) + 1 by omega, frM, c32, if_pos rfl, e8] at hres
            exact ih (i + 1) true _ _ H locs (by omega) (by omega) hm hres ls (lv_sub hl [2, 3, 4, 5, 1, 0] rfl)
          · skip
            refine lv_aload_n hx hb d_M_isFree_52 rfl (lv_at hl 0 rfl) ?_
            refine lv_aload_n hx hb d_M_isFree_53 rfl (lv_at hl 1 rfl) ?_
            refine lv_iload_n hx hb d_M_isFree_54 rfl (lv_at hl 2 rfl) ?_
            refine lv_iload hx hb d_M_isFree_55 (lv_at hl 5 rfl) ?_
            obtain ⟨hu10, hut, hus, hcu⟩ := hnt i (by omega)
            refine aM (rV (As := [.ref (ad 30), .int (nI t.length), .int (nI i)]) (rest := []) C0 (c_M_isNear30 l g _ x ad _ _ _ hm.1 t (NT i) i ht hu10 (by omega) htx hut hus hct hcu) (m_zK hZ hm) k_M_isFree_57 rfl rfl ⟨Nat.le_of_ble_eq_true rfl, Nat.le_of_ble_eq_true rfl⟩ (m_recv hK hm) rfl hl.1 rfl (Nat.le_of_ble_eq_true rfl) d_M_isFree_57 ⟨Nat.zero_le _, Nat.zero_le _⟩) hm (fun v F1 A1 B1 H locs hp hm => ?_)
            obtain ⟨rfl, eF, ⟨f3, f4, eA⟩, eB⟩ := hp
            rw [eF, eA, eB, updA4] at hm
            refine W.eq (g2 := F0 m 60 ls [.int (bI (nearM t (NT i)))]) rfl ?_
            refine z_ne (tgt := 67) (v := nearM t (NT i)) hx hb d_M_isFree_60 (by decide) (fun c60 => ?_) (fun c60 => ?_)
            · skip
              refine lv_iconst (v := nI 0) hx hb d_M_isFree_67 (by decide) ?_
              refine lv_istore (lv' := [(4, .int (nI 0)), (0, .ref x), (1, .ref (ad 30)), (2, .int (nI t.length)), (3, .int but), (5, .int (nI i))]) hx hb d_M_isFree_68 hl (by decide) rfl (fun ls hl => ?_)
              refine n_inc (a := i) (lv' := [(5, .int (nI (i + 1))), (4, .int (nI 0)), (0, .ref x), (1, .ref (ad 30)), (2, .int (nI t.length)), (3, .int but)]) hx hb d_M_isFree_70 hl (k := 5) rfl (by decide) rfl (fun ls hl => ?_)
              refine lv_goto (tgt := 21) hx hb d_M_isFree_73 (by decide) ?_
              have e8 : (decide (nI i = but) || (!decide (A 19 i = nI 1) || !nearM t (NT i))) = false := by rw [decide_eq_false c38, decide_eq_true c49, c60]; rfl
              rw [show cn - i = (cn - (i + 1)) + 1 by omega, frM, c32, if_pos rfl, e8] at hres
              exact ih (i + 1) false _ _ H locs (by omega) (by omega) hm hres ls (lv_sub hl [2, 3, 4, 5, 1, 0] rfl)
            · skip
              refine lv_iconst (v := nI 1) hx hb d_M_isFree_63 (by decide) ?_
              refine lv_goto (tgt := 68) hx hb d_M_isFree_64 (by decide) ?_
              refine lv_istore (lv' := [(4, .int (nI 1)), (0, .ref x), (1, .ref (ad 30)), (2, .int (nI t.length)), (3, .int but), (5, .int (nI i))]) hx hb d_M_isFree_68 hl (by decide) rfl (fun ls hl => ?_)
              refine n_inc (a := i) (lv' := [(5, .int (nI (i + 1))), (4, .int (nI 1)), (0, .ref x), (1, .ref (ad 30)), (2, .int (nI t.length)), (3, .int but)]) hx hb d_M_isFree_70 hl (k := 5) rfl (by decide) rfl (fun ls hl => ?_)
              refine lv_goto (tgt := 21) hx hb d_M_isFree_73 (by decide) ?_
              have e8 : (decide (nI i = but) || (!decide (A 19 i = nI 1) || !nearM t (NT i))) = true := by rw [decide_eq_false c38, decide_eq_true c49, c60]; rfl
              rw [show cn - i = (cn - (i + 1)) + 1 by omega, frM, c32, if_pos rfl, e8] at hres
              exact ih (i + 1) true _ _ H locs (by omega) (by omega) hm hres ls (lv_sub hl [2, 3, 4, 5, 1, 0] rfl)
set_option maxHeartbeats 4000000 in
set_option maxRecDepth 100000 in
theorem c_M_isFree30 (l : Launch) (g : gG) (H : Heap) (x : Nat) (ad : Nat → Nat) (F : Nat → Int32) (A : Nat → Nat → Int32) (B : Nat → Nat → Int64) (hm0 : mW g H x ad F A B) (t : List Nat) (cn : Nat) (NT : Nat → List Nat) (ht : t.length ≤ 10) (htx : txt A 30 0 t) (hct : ∀ k, t.getD k 0 < 128) (hrep : repN F A cn NT) (but : Int32) : Met l y_M_isFree (wC y_M_isFree b_M_isFree 6 (some .boolean)) (rmk 2 0 0 52) (pC g H [.ref x, .ref (ad 30), .int (nI t.length), .int but]) (qM g H x ad (fun v F1 A1 B1 => v = some (.int (bI (frM (A 19) t NT but cn 0 (decide (metA A 30 0 t.length cn 0 (-1) = -1))))) ∧ F1 = F ∧ (∃ f f2, A1 = updA (updA A 34 f) 35 f2) ∧ B1 = B)) 0 0 (mN x ad) := by
  refine mB (by decide) (Nat.le_of_ble_eq_true rfl) ?_
  intro p e s m below meth c ls C0 hH hZ hnm hl
  have C0 : cF g p s m _ meth c b_M_isFree 6 "RegistryLogModel" (some .boolean) := C0
  obtain ⟨hx, hb, hml, hown, hts, hr, hlk, hK⟩ := id C0
  subst hH
  have hl : lv_has ls 6 [(0, .ref x), (1, .ref (ad 30)), (2, .int (nI t.length)), (3, .int but)] := hl
  have hm := mS.rf hm0
  obtain ⟨hcn, hcn2, hnt⟩ := id hrep
  refine lv_aload_n hx hb d_M_isFree_0 rfl (lv_at hl 0 rfl) ?_
  refine lv_aload_n hx hb d_M_isFree_1 rfl (lv_at hl 1 rfl) ?_
  refine lv_iconst (v := nI 0) hx hb d_M_isFree_2 (by decide) ?_
  refine lv_iload_n hx hb d_M_isFree_3 rfl (lv_at hl 2 rfl) ?_
  refine aM (rV (As := [.ref (ad 30), .int (nI 0), .int (nI t.length)]) (rest := []) C0 (c_M_met l g _ x ad _ _ _ hm.1 30 0 t.length cn rfl ht (by show 0 + t.length ≤ 10; omega) hcn hcn2) (m_zK hZ hm) k_M_isFree_4 rfl rfl ⟨Nat.le_of_ble_eq_true rfl, Nat.le_of_ble_eq_true rfl⟩ (m_recv hK hm) rfl hl.1 rfl (Nat.le_of_ble_eq_true rfl) d_M_isFree_4 ⟨Nat.zero_le _, Nat.zero_le _⟩) hm (fun v F1 A1 B1 H locs hp hm => ?_)
  obtain ⟨rfl, eF, eA, eB⟩ := hp
  rw [eF, eA, eB] at hm
  refine W.eq (g2 := F0 m 7 ls [.int (metA A 30 0 t.length cn 0 (-1))]) rfl ?_
  refine lv_iconst (v := (-1)) hx hb d_M_isFree_7 (by decide) ?_
  refine lv_icmp_ne (tgt := 15) hx hb d_M_isFree_8 (by decide) (fun c8 => ?_) (fun c8 => ?_)
  · skip
    refine lv_iconst (v := nI 0) hx hb d_M_isFree_15 (by decide) ?_
    refine lv_istore (lv' := [(4, .int (nI 0)), (0, .ref x), (1, .ref (ad 30)), (2, .int (nI t.length)), (3, .int but)]) hx hb d_M_isFree_16 hl (by decide) rfl (fun ls hl => ?_)
    refine lv_iconst (v := nI 0) hx hb d_M_isFree_18 (by decide) ?_
    refine lv_istore (lv' := [(5, .int (nI 0)), (4, .int (nI 0)), (0, .ref x), (1, .ref (ad 30)), (2, .int (nI t.length)), (3, .int but)]) hx hb d_M_isFree_19 hl (by decide) rfl (fun ls hl => ?_)
    rw [decide_eq_false c8]
    exact lp_M_isFree30 C0 hZ t cn NT ht htx hct hrep but _ (cn + 1) 0 false (A 34) (A 35) H locs (Nat.zero_le _) (by omega) (by rw [updA_id2]; exact hm) rfl ls (lv_sub hl [2, 3, 4, 5, 1, 0] rfl)
  · skip
    refine lv_iconst (v := nI 1) hx hb d_M_isFree_11 (by decide) ?_
    refine lv_goto (tgt := 16) hx hb d_M_isFree_12 (by decide) ?_
    refine lv_istore (lv' := [(4, .int (nI 1)), (0, .ref x), (1, .ref (ad 30)), (2, .int (nI t.length)), (3, .int but)]) hx hb d_M_isFree_16 hl (by decide) rfl (fun ls hl => ?_)
    refine lv_iconst (v := nI 0) hx hb d_M_isFree_18 (by decide) ?_
    refine lv_istore (lv' := [(5, .int (nI 0)), (4, .int (nI 1)), (0, .ref x), (1, .ref (ad 30)), (2, .int (nI t.length)), (3, .int but)]) hx hb d_M_isFree_19 hl (by decide) rfl (fun ls hl => ?_)
    rw [decide_eq_true c8]
    exact lp_M_isFree30 C0 hZ t cn NT ht htx hct hrep but _ (cn + 1) 0 true (A 34) (A 35) H locs (Nat.zero_le _) (by omega) (by rw [updA_id2]; exact hm) rfl ls (lv_sub hl [2, 3, 4, 5, 1, 0] rfl)
set_option maxHeartbeats 4000000 in
set_option maxRecDepth 100000 in
theorem lp_M_isFree31 {p : Program} {l : Launch} {e : Env} {s : State} {m : MethodId} {args : Array Value} {below : List Frame} {meth : Method} {c : Code} {g : gG} (C0 : cF g p s m args meth c b_M_isFree 6 "RegistryLogModel" (some .boolean)) (hZ : zK g s s.heap) {x : Nat} {ad : Nat → Nat} {F : Nat → Int32} {A : Nat → Nat → Int32} {B : Nat → Nat → Int64} (t : List Nat) (cn : Nat) (NT : Nat → List Nat) (ht : t.length ≤ 10) (htx : txt A 31 0 t) (hct : ∀ k, t.getD k 0 < 128) (hrep : repN F A cn NT) (but : Int32) (res : Bool) :
    ∀ (n i : Nat) (b0 : Bool) (f f2 : Nat → Int32) (H : Heap) (locs : List Loc), i ≤ cn → cn + 1 ≤ i + n → mS g s.heap H x ad F (updA (updA A 34 f) 35 f2) B locs → frM (A 19) t NT but (cn - i) i b0 = res → ∀ (ls : Array Slot), lv_has ls 6 [(0, .ref x), (1, .ref (ad 31)), (2, .int (nI t.length)), (3, .int but), (4, .int (bI b0)), (5, .int (nI i))] → W p l e (rmk 2 0 0 52) s m args below meth c H locs 0 0 (MQ below (qM g s.heap x ad (fun v F1 A1 B1 => v = some (.int (bI res)) ∧ F1 = F ∧ (∃ f f2, A1 = updA (updA A 34 f) 35 f2) ∧ B1 = B)) args s 0 0 (mN x ad)) (F0 m 21 ls []) := by
  obtain ⟨hx, hb, hml, hown, hts, hr, hlk, hK⟩ := id C0
  obtain ⟨hcn, hcn2, hnt⟩ := hrep
  intro n
  induction n with
  | zero => intro i b0 f f2 H locs h1 h2; exact absurd h2 (by omega)
  | succ n ih =>
    intro i b0 f f2 H locs hi hin hm hres ls hl
    refine lv_iload hx hb d_M_isFree_21 (lv_at hl 5 rfl) ?_
    refine lv_aload_n hx hb d_M_isFree_23 rfl (lv_at hl 0 rfl) ?_
    refine m_get hx hb hts hown hK hm 27 (by decide) (hts (.fieldLink "RegistryLogModel" 133 "RegistryLogModel" "names" "I") (in_4 (List.mem_of_getElem? (i := 236) rfl) rfl)) rfl (v := .int (nI cn)) (congrArg (fun z => some (Value.int z)) hcn) d_M_isFree_24 ?_
    refine n_ge (tgt := 76) (a := i) (b := cn) hx hb d_M_isFree_27 (by decide) (by omega) (by omega) (fun c27 => ?_) (fun c27 => ?_)
    · skip
      refine lv_iload hx hb d_M_isFree_76 (lv_at hl 4 rfl) ?_
      rw [show cn - i = 0 by omega, frM] at hres
      exact W.zret hx hb hr (by cases b0 <;> rfl) (fun t9 ht hW => ⟨_, _, _, _, rfl, by rw [ht]; exact ⟨hm.1, hm.2.1, hm.2.2.1, fun _ h => by cases h⟩, ⟨by rw [← hres], rfl, ⟨_, _, rfl⟩, rfl⟩⟩) hm.2.2.2 d_M_isFree_78 hlk
    · skip
      refine lv_iload hx hb d_M_isFree_30 (lv_at hl 4 rfl) ?_
      refine z_eq (tgt := 76) (v := b0) hx hb d_M_isFree_32 (by decide) (fun c32 => ?_) (fun c32 => ?_)
      · skip
        refine lv_iload hx hb d_M_isFree_76 (lv_at hl 4 rfl) ?_
        rw [c32, frM_f, ← c32] at hres
        exact W.zret hx hb hr (by cases b0 <;> rfl) (fun t9 ht hW => ⟨_, _, _, _, rfl, by rw [ht]; exact ⟨hm.1, hm.2.1, hm.2.2.1, fun _ h => by cases h⟩, ⟨by rw [← hres], rfl, ⟨_, _, rfl⟩, rfl⟩⟩) hm.2.2.2 d_M_isFree_78 hlk
      · skip
        refine lv_iload hx hb d_M_isFree_35 (lv_at hl 5 rfl) ?_
        refine lv_iload_n hx hb d_M_isFree_37 rfl (lv_at hl 3 rfl) ?_
        refine lv_icmp_eq (tgt := 63) hx hb d_M_isFree_38 (by decide) (fun c38 => ?_) (fun c38 => ?_)
        · skip
          refine lv_iconst (v := nI 1) hx hb d_M_isFree_63 (by decide) ?_
          refine lv_goto (tgt := 68) hx hb d_M_isFree_64 (by decide) ?_
          refine lv_istore (lv' := [(4, .int (nI 1)), (0, .ref x), (1, .ref (ad 31)), (2, .int (nI t.length)), (3, .int but), (5, .int (nI i))]) hx hb d_M_isFree_68 hl (by decide) rfl (fun ls hl => ?_)
          refine n_inc (a := i) (lv' := [(5, .int (nI (i + 1))), (4, .int (nI 1)), (0, .ref x), (1, .ref (ad 31)), (2, .int (nI t.length)), (3, .int but)]) hx hb d_M_isFree_70 hl (k := 5) rfl (by decide) rfl (fun ls hl => ?_)
          refine lv_goto (tgt := 21) hx hb d_M_isFree_73 (by decide) ?_
          have e8 : (decide (nI i = but) || (!decide (A 19 i = nI 1) || !nearM t (NT i))) = true := by rw [decide_eq_true c38]; rfl
          rw [show cn - i = (cn - (i + 1)) + 1 by omega, frM, c32, if_pos rfl, e8] at hres
          exact ih (i + 1) true _ _ H locs (by omega) (by omega) hm hres ls (lv_sub hl [2, 3, 4, 5, 1, 0] rfl)
        · skip
          refine lv_aload_n hx hb d_M_isFree_41 rfl (lv_at hl 0 rfl) ?_
          refine m_get hx hb hts hown hK hm 19 (by decide) (hts (.fieldLink "RegistryLogModel" 56 "RegistryLogModel" "nameState" "[I") (in_4 (List.mem_of_getElem? (i := 228) rfl) rfl)) rfl (v := .ref (ad 19)) rfl d_M_isFree_42 ?_
          refine lv_iload hx hb d_M_isFree_45 (lv_at hl 5 rfl) ?_
          refine m_ld hx hb hK hm 19 rfl i rfl (show i < 240 from by omega) d_M_isFree_47 ?_
          refine W.eq (g2 := F0 m 48 ls [.int (A 19 i)]) rfl ?_
          refine lv_iconst (v := nI 1) hx hb d_M_isFree_48 (by decide) ?_
          refine lv_icmp_ne (tgt := 63) hx hb d_M_isFree_49 (by decide) (fun c49 => ?_) (fun c49 => ?_)
          · skip
            refine lv_iconst (v := nI 1) hx hb d_M_isFree_63 (by decide) ?_
            refine lv_goto (tgt := 68) hx hb d_M_isFree_64 (by decide) ?_
            refine lv_istore (lv' := [(4, .int (nI 1)), (0, .ref x), (1, .ref (ad 31)), (2, .int (nI t.length)), (3, .int but), (5, .int (nI i))]) hx hb d_M_isFree_68 hl (by decide) rfl (fun ls hl => ?_)
            refine n_inc (a := i) (lv' := [(5, .int (nI (i + 1))), (4, .int (nI 1)), (0, .ref x), (1, .ref (ad 31)), (2, .int (nI t.length)), (3, .int but)]) hx hb d_M_isFree_70 hl (k := 5) rfl (by decide) rfl (fun ls hl => ?_)
            refine lv_goto (tgt := 21) hx hb d_M_isFree_73 (by decide) ?_
            have e8 : (decide (nI i = but) || (!decide (A 19 i = nI 1) || !nearM t (NT i))) = true := by rw [decide_eq_false c38, decide_eq_false c49]; rfl
            rw [show cn - i = (cn - (i + 1)) + 1 by omega, frM, c32, if_pos rfl, e8] at hres
            exact ih (i + 1) true _ _ H locs (by omega) (by omega) hm hres ls (lv_sub hl [2, 3, 4, 5, 1, 0] rfl)
          · skip
            refine lv_aload_n hx hb d_M_isFree_52 rfl (lv_at hl 0 rfl) ?_
            refine lv_aload_n hx hb d_M_isFree_53 rfl (lv_at hl 1 rfl) ?_
            refine lv_iload_n hx hb d_M_isFree_54 rfl (lv_at hl 2 rfl) ?_
            refine lv_iload hx hb d_M_isFree_55 (lv_at hl 5 rfl) ?_
            obtain ⟨hu10, hut, hus, hcu⟩ := hnt i (by omega)
            refine aM (rV (As := [.ref (ad 31), .int (nI t.length), .int (nI i)]) (rest := []) C0 (c_M_isNear31 l g _ x ad _ _ _ hm.1 t (NT i) i ht hu10 (by omega) htx hut hus hct hcu) (m_zK hZ hm) k_M_isFree_57 rfl rfl ⟨Nat.le_of_ble_eq_true rfl, Nat.le_of_ble_eq_true rfl⟩ (m_recv hK hm) rfl hl.1 rfl (Nat.le_of_ble_eq_true rfl) d_M_isFree_57 ⟨Nat.zero_le _, Nat.zero_le _⟩) hm (fun v F1 A1 B1 H locs hp hm => ?_)
            obtain ⟨rfl, eF, ⟨f3, f4, eA⟩, eB⟩ := hp
            rw [eF, eA, eB, updA4] at hm
            refine W.eq (g2 := F0 m 60 ls [.int (bI (nearM t (NT i)))]) rfl ?_
            refine z_ne (tgt := 67) (v := nearM t (NT i)) hx hb d_M_isFree_60 (by decide) (fun c60 => ?_) (fun c60 => ?_)
            · skip
              refine lv_iconst (v := nI 0) hx hb d_M_isFree_67 (by decide) ?_
              refine lv_istore (lv' := [(4, .int (nI 0)), (0, .ref x), (1, .ref (ad 31)), (2, .int (nI t.length)), (3, .int but), (5, .int (nI i))]) hx hb d_M_isFree_68 hl (by decide) rfl (fun ls hl => ?_)
              refine n_inc (a := i) (lv' := [(5, .int (nI (i + 1))), (4, .int (nI 0)), (0, .ref x), (1, .ref (ad 31)), (2, .int (nI t.length)), (3, .int but)]) hx hb d_M_isFree_70 hl (k := 5) rfl (by decide) rfl (fun ls hl => ?_)
              refine lv_goto (tgt := 21) hx hb d_M_isFree_73 (by decide) ?_
              have e8 : (decide (nI i = but) || (!decide (A 19 i = nI 1) || !nearM t (NT i))) = false := by rw [decide_eq_false c38, decide_eq_true c49, c60]; rfl
              rw [show cn - i = (cn - (i + 1)) + 1 by omega, frM, c32, if_pos rfl, e8] at hres
              exact ih (i + 1) false _ _ H locs (by omega) (by omega) hm hres ls (lv_sub hl [2, 3, 4, 5, 1, 0] rfl)
            · skip
              refine lv_iconst (v := nI 1) hx hb d_M_isFree_63 (by decide) ?_
              refine lv_goto (tgt := 68) hx hb d_M_isFree_64 (by decide) ?_
              refine lv_istore (lv' := [(4, .int (nI 1)), (0, .ref x), (1, .ref (ad 31)), (2, .int (nI t.length)), (3, .int but), (5, .int (nI i))]) hx hb d_M_isFree_68 hl (by decide) rfl (fun ls hl => ?_)
              refine n_inc (a := i) (lv' := [(5, .int (nI (i + 1))), (4, .int (nI 1)), (0, .ref x), (1, .ref (ad 31)), (2, .int (nI t.length)), (3, .int but)]) hx hb d_M_isFree_70 hl (k := 5) rfl (by decide) rfl (fun ls hl => ?_)
              refine lv_goto (tgt := 21) hx hb d_M_isFree_73 (by decide) ?_
              have e8 : (decide (nI i = but) || (!decide (A 19 i = nI 1) || !nearM t (NT i))) = true := by rw [decide_eq_false c38, decide_eq_true c49, c60]; rfl
              rw [show cn - i = (cn - (i + 1)) + 1 by omega, frM, c32, if_pos rfl, e8] at hres
              exact ih (i + 1) true _ _ H locs (by omega) (by omega) hm hres ls (lv_sub hl [2, 3, 4, 5, 1, 0] rfl)
set_option maxHeartbeats 4000000 in
set_option maxRecDepth 100000 in
theorem c_M_isFree31 (l : Launch) (g : gG) (H : Heap) (x : Nat) (ad : Nat → Nat) (F : Nat → Int32) (A : Nat → Nat → Int32) (B : Nat → Nat → Int64) (hm0 : mW g H x ad F A B) (t : List Nat) (cn : Nat) (NT : Nat → List Nat) (ht : t.length ≤ 10) (htx : txt A 31 0 t) (hct : ∀ k, t.getD k 0 < 128) (hrep : repN F A cn NT) (but : Int32) : Met l y_M_isFree (wC y_M_isFree b_M_isFree 6 (some .boolean)) (rmk 2 0 0 52) (pC g H [.ref x, .ref (ad 31), .int (nI t.length), .int but]) (qM g H x ad (fun v F1 A1 B1 => v = some (.int (bI (frM (A 19) t NT but cn 0 (decide (metA A 31 0 t.length cn 0 (-1) = -1))))) ∧ F1 = F ∧ (∃ f f2, A1 = updA (updA A 34 f) 35 f2) ∧ B1 = B)) 0 0 (mN x ad) := by
  refine mB (by decide) (Nat.le_of_ble_eq_true rfl) ?_
  intro p e s m below meth c ls C0 hH hZ hnm hl
  have C0 : cF g p s m _ meth c b_M_isFree 6 "RegistryLogModel" (some .boolean) := C0
  obtain ⟨hx, hb, hml, hown, hts, hr, hlk, hK⟩ := id C0
  subst hH
  have hl : lv_has ls 6 [(0, .ref x), (1, .ref (ad 31)), (2, .int (nI t.length)), (3, .int but)] := hl
  have hm := mS.rf hm0
  obtain ⟨hcn, hcn2, hnt⟩ := id hrep
  refine lv_aload_n hx hb d_M_isFree_0 rfl (lv_at hl 0 rfl) ?_
  refine lv_aload_n hx hb d_M_isFree_1 rfl (lv_at hl 1 rfl) ?_
  refine lv_iconst (v := nI 0) hx hb d_M_isFree_2 (by decide) ?_
  refine lv_iload_n hx hb d_M_isFree_3 rfl (lv_at hl 2 rfl) ?_
  refine aM (rV (As := [.ref (ad 31), .int (nI 0), .int (nI t.length)]) (rest := []) C0 (c_M_met l g _ x ad _ _ _ hm.1 31 0 t.length cn rfl ht (by show 0 + t.length ≤ 10; omega) hcn hcn2) (m_zK hZ hm) k_M_isFree_4 rfl rfl ⟨Nat.le_of_ble_eq_true rfl, Nat.le_of_ble_eq_true rfl⟩ (m_recv hK hm) rfl hl.1 rfl (Nat.le_of_ble_eq_true rfl) d_M_isFree_4 ⟨Nat.zero_le _, Nat.zero_le _⟩) hm (fun v F1 A1 B1 H locs hp hm => ?_)
  obtain ⟨rfl, eF, eA, eB⟩ := hp
  rw [eF, eA, eB] at hm
  refine W.eq (g2 := F0 m 7 ls [.int (metA A 31 0 t.length cn 0 (-1))]) rfl ?_
  refine lv_iconst (v := (-1)) hx hb d_M_isFree_7 (by decide) ?_
  refine lv_icmp_ne (tgt := 15) hx hb d_M_isFree_8 (by decide) (fun c8 => ?_) (fun c8 => ?_)
  · skip
    refine lv_iconst (v := nI 0) hx hb d_M_isFree_15 (by decide) ?_
    refine lv_istore (lv' := [(4, .int (nI 0)), (0, .ref x), (1, .ref (ad 31)), (2, .int (nI t.length)), (3, .int but)]) hx hb d_M_isFree_16 hl (by decide) rfl (fun ls hl => ?_)
    refine lv_iconst (v := nI 0) hx hb d_M_isFree_18 (by decide) ?_
    refine lv_istore (lv' := [(5, .int (nI 0)), (4, .int (nI 0)), (0, .ref x), (1, .ref (ad 31)), (2, .int (nI t.length)), (3, .int but)]) hx hb d_M_isFree_19 hl (by decide) rfl (fun ls hl => ?_)
    rw [decide_eq_false c8]
    exact lp_M_isFree31 C0 hZ t cn NT ht htx hct hrep but _ (cn + 1) 0 false (A 34) (A 35) H locs (Nat.zero_le _) (by omega) (by rw [updA_id2]; exact hm) rfl ls (lv_sub hl [2, 3, 4, 5, 1, 0] rfl)
  · skip
    refine lv_iconst (v := nI 1) hx hb d_M_isFree_11 (by decide) ?_
    refine lv_goto (tgt := 16) hx hb d_M_isFree_12 (by decide) ?_
    refine lv_istore (lv' := [(4, .int (nI 1)), (0, .ref x), (1, .ref (ad 31)), (2, .int (nI t.length)), (3, .int but)]) hx hb d_M_isFree_16 hl (by decide) rfl (fun ls hl => ?_)
    refine lv_iconst (v := nI 0) hx hb d_M_isFree_18 (by decide) ?_
    refine lv_istore (lv' := [(5, .int (nI 0)), (4, .int (nI 1)), (0, .ref x), (1, .ref (ad 31)), (2, .int (nI t.length)), (3, .int but)]) hx hb d_M_isFree_19 hl (by decide) rfl (fun ls hl => ?_)
    rw [decide_eq_true c8]
    exact lp_M_isFree31 C0 hZ t cn NT ht htx hct hrep but _ (cn + 1) 0 true (A 34) (A 35) H locs (Nat.zero_le _) (by omega) (by rw [updA_id2]; exact hm) rfl ls (lv_sub hl [2, 3, 4, 5, 1, 0] rfl)
theorem k_M_takes_63 : kV "RegistryLogModel" 119 "RegistryLogModel" y_M_isName b_M_isName 5 (some .boolean) 2 := ⟨(in_5 (List.mem_of_getElem? (i := 126) rfl) rfl), (in_5 (List.mem_of_getElem? (i := 128) rfl) rfl), (in_0 (List.mem_of_getElem? (i := 7) rfl) rfl), (in_1 (List.mem_of_getElem? (i := 22) rfl) rfl), (in_5 (List.mem_of_getElem? (i := 129) rfl) rfl), ⟨by decide, by decide, by decide +kernel⟩⟩
theorem k_M_takes_78 : kV "RegistryLogModel" 119 "RegistryLogModel" y_M_isName b_M_isName 5 (some .boolean) 2 := ⟨(in_5 (List.mem_of_getElem? (i := 126) rfl) rfl), (in_5 (List.mem_of_getElem? (i := 128) rfl) rfl), (in_0 (List.mem_of_getElem? (i := 7) rfl) rfl), (in_1 (List.mem_of_getElem? (i := 22) rfl) rfl), (in_5 (List.mem_of_getElem? (i := 129) rfl) rfl), ⟨by decide, by decide, by decide +kernel⟩⟩
set_option maxHeartbeats 4000000 in
set_option maxRecDepth 100000 in
theorem lp_M_takes1 {p : Program} {l : Launch} {e : Env} {s : State} {m : MethodId} {args : Array Value} {below : List Frame} {meth : Method} {c : Code} {g : gG} {R : Room} {Q : State → Prop} (C0 : cF g p s m args meth c b_M_takes 5 "RegistryLogModel" (some .boolean)) {x : Nat} {ad : Nat → Nat} {F : Nat → Int32} {A : Nat → Nat → Int32} {B : Nat → Nat → Int64} (bb : Bool) (nn cut : Nat) (hcut : cut ≤ 10) (K : ∀ (H : Heap) (locs : List Loc), mS g s.heap H x ad F (updA A 30 (va_cpy (A 1) (A 30) 0 0 cut)) B locs → ∀ (ls : Array Slot), lv_has ls 5 [(0, .ref x), (1, .int (bI bb)), (2, .int (nI nn)), (3, .int (nI cut)), (4, .int (nI cut))] → W p l e R s m args below meth c H locs 0 0 Q (F0 m 120 ls [])) :
    ∀ (n i : Nat) (H : Heap) (locs : List Loc), i ≤ cut → cut + 1 ≤ i + n → mS g s.heap H x ad F (updA A 30 (va_cpy (A 1) (A 30) 0 0 i)) B locs → ∀ (ls : Array Slot), lv_has ls 5 [(0, .ref x), (1, .int (bI bb)), (2, .int (nI nn)), (3, .int (nI cut)), (4, .int (nI i))] → W p l e R s m args below meth c H locs 0 0 Q (F0 m 94 ls []) := by
  obtain ⟨hx, hb, hml, hown, hts, hr, hlk, hK⟩ := id C0
  intro n
  induction n with
  | zero => intro i H locs h1 h2; exact absurd h2 (by omega)
  | succ n ih =>
    intro i H locs hi hin hm ls hl
    refine lv_iload hx hb d_M_takes_94 (lv_at hl 4 rfl) ?_
    refine lv_iload_n hx hb d_M_takes_96 rfl (lv_at hl 3 rfl) ?_
    refine n_ge (tgt := 120) (a := i) (b := cut) hx hb d_M_takes_97 (by decide) (by omega) (by omega) (fun c97 => ?_) (fun c97 => ?_)
    · skip
      have e9 : i = cut := by omega
      rw [e9] at hm hl
      exact K H locs hm ls (lv_sub hl [0, 1, 2, 3, 4] rfl)
    · skip
      refine lv_aload_n hx hb d_M_takes_100 rfl (lv_at hl 0 rfl) ?_
      refine m_get hx hb hts hown hK hm 30 (by decide) (hts (.fieldLink "RegistryLogModel" 80 "RegistryLogModel" "one" "[I") (in_4 (List.mem_of_getElem? (i := 239) rfl) rfl)) rfl (v := .ref (ad 30)) rfl d_M_takes_101 ?_
      refine lv_iload hx hb d_M_takes_104 (lv_at hl 4 rfl) ?_
      refine lv_aload_n hx hb d_M_takes_106 rfl (lv_at hl 0 rfl) ?_
      refine m_get hx hb hts hown hK hm 1 (by decide) (hts (.fieldLink "RegistryLogModel" 7 "RegistryLogModel" "text" "[I") (in_4 (List.mem_of_getElem? (i := 210) rfl) rfl)) rfl (v := .ref (ad 1)) rfl d_M_takes_107 ?_
      refine lv_iload hx hb d_M_takes_110 (lv_at hl 4 rfl) ?_
      refine m_ld hx hb hK hm 1 rfl (0 + i) (by rw [Nat.zero_add]) (show 0 + i < 24 from by omega) d_M_takes_112 ?_
      refine W.eq (g2 := F0 m 113 ls [.int (A 1 (0 + i)), .int (nI i), .ref (ad 30)]) rfl ?_
      refine m_st hx hb hK hm 30 rfl (0 + i) (by rw [Nat.zero_add]) (show 0 + i < 10 from by omega) d_M_takes_113 (fun H locs hm => ?_)
      have hm : mS g s.heap H x ad F (updA (updA A 30 (va_cpy (A 1) (A 30) 0 0 i)) 30 (upd (va_cpy (A 1) (A 30) 0 0 i) (0 + i) (A 1 (0 + i)))) B locs := hm
      refine n_inc (a := i) (lv' := [(4, .int (nI (i + 1))), (0, .ref x), (1, .int (bI bb)), (2, .int (nI nn)), (3, .int (nI cut))]) hx hb d_M_takes_114 hl (k := 4) rfl (by decide) rfl (fun ls hl => ?_)
      refine lv_goto (tgt := 94) hx hb d_M_takes_117 (by decide) ?_
      rw [updA2, cpy_s] at hm
      exact ih (i + 1) H locs (by omega) (by omega) hm ls (lv_sub hl [1, 2, 3, 4, 0] rfl)
set_option maxHeartbeats 4000000 in
set_option maxRecDepth 100000 in
theorem lp_M_takes2 {p : Program} {l : Launch} {e : Env} {s : State} {m : MethodId} {args : Array Value} {below : List Frame} {meth : Method} {c : Code} {g : gG} {R : Room} {Q : State → Prop} (C0 : cF g p s m args meth c b_M_takes 5 "RegistryLogModel" (some .boolean)) {x : Nat} {ad : Nat → Nat} {F : Nat → Int32} {A : Nat → Nat → Int32} {B : Nat → Nat → Int64} (bb : Bool) (nn cut n2 : Nat) (hn2 : n2 ≤ 10) (hc2 : cut + 1 + n2 ≤ 24) (h33 : F 33 = nI n2) (K : ∀ (H : Heap) (locs : List Loc), mS g s.heap H x ad F (updA A 31 (va_cpy (A 1) (A 31) (cut + 1) 0 n2)) B locs → ∀ (ls : Array Slot), lv_has ls 5 [(0, .ref x), (1, .int (bI bb)), (2, .int (nI nn)), (3, .int (nI cut)), (4, .int (nI n2))] → W p l e R s m args below meth c H locs 0 0 Q (F0 m 173 ls [])) :
    ∀ (n i : Nat) (H : Heap) (locs : List Loc), i ≤ n2 → n2 + 1 ≤ i + n → mS g s.heap H x ad F (updA A 31 (va_cpy (A 1) (A 31) (cut + 1) 0 i)) B locs → ∀ (ls : Array Slot), lv_has ls 5 [(0, .ref x), (1, .int (bI bb)), (2, .int (nI nn)), (3, .int (nI cut)), (4, .int (nI i))] → W p l e R s m args below meth c H locs 0 0 Q (F0 m 140 ls []) := by
  obtain ⟨hx, hb, hml, hown, hts, hr, hlk, hK⟩ := id C0
  intro n
  induction n with
  | zero => intro i H locs h1 h2; exact absurd h2 (by omega)
  | succ n ih =>
    intro i H locs hi hin hm ls hl
    refine lv_iload hx hb d_M_takes_140 (lv_at hl 4 rfl) ?_
    refine lv_aload_n hx hb d_M_takes_142 rfl (lv_at hl 0 rfl) ?_
    refine m_get hx hb hts hown hK hm 33 (by decide) (hts (.fieldLink "RegistryLogModel" 126 "RegistryLogModel" "twoSize" "I") (in_5 (List.mem_of_getElem? (i := 2) rfl) rfl)) rfl (v := .int (nI n2)) (congrArg (fun z => some (Value.int z)) h33) d_M_takes_143 ?_
    refine n_ge (tgt := 173) (a := i) (b := n2) hx hb d_M_takes_146 (by decide) (by omega) (by omega) (fun c146 => ?_) (fun c146 => ?_)
    · skip
      have e9 : i = n2 := by omega
      rw [e9] at hm hl
      exact K H locs hm ls (lv_sub hl [0, 1, 2, 3, 4] rfl)
    · skip
      refine lv_aload_n hx hb d_M_takes_149 rfl (lv_at hl 0 rfl) ?_
      refine m_get hx hb hts hown hK hm 31 (by decide) (hts (.fieldLink "RegistryLogModel" 83 "RegistryLogModel" "two" "[I") (in_5 (List.mem_of_getElem? (i := 0) rfl) rfl)) rfl (v := .ref (ad 31)) rfl d_M_takes_150 ?_
      refine lv_iload hx hb d_M_takes_153 (lv_at hl 4 rfl) ?_
      refine lv_aload_n hx hb d_M_takes_155 rfl (lv_at hl 0 rfl) ?_
      refine m_get hx hb hts hown hK hm 1 (by decide) (hts (.fieldLink "RegistryLogModel" 7 "RegistryLogModel" "text" "[I") (in_4 (List.mem_of_getElem? (i := 210) rfl) rfl)) rfl (v := .ref (ad 1)) rfl d_M_takes_156 ?_
      refine lv_iload_n hx hb d_M_takes_159 rfl (lv_at hl 3 rfl) ?_
      refine lv_iconst (v := nI 1) hx hb d_M_takes_160 (by decide) ?_
      refine n_iadd hx hb d_M_takes_161 ?_
      refine lv_iload hx hb d_M_takes_162 (lv_at hl 4 rfl) ?_
      refine n_iadd hx hb d_M_takes_164 ?_
      refine m_ld hx hb hK hm 1 rfl ((cut + 1) + i) rfl (show (cut + 1) + i < 24 from by omega) d_M_takes_165 ?_
      refine W.eq (g2 := F0 m 166 ls [.int (A 1 ((cut + 1) + i)), .int (nI i), .ref (ad 31)]) rfl ?_
      refine m_st hx hb hK hm 31 rfl (0 + i) (by rw [Nat.zero_add]) (show 0 + i < 10 from by omega) d_M_takes_166 (fun H locs hm => ?_)
      have hm : mS g s.heap H x ad F (updA (updA A 31 (va_cpy (A 1) (A 31) (cut + 1) 0 i)) 31 (upd (va_cpy (A 1) (A 31) (cut + 1) 0 i) (0 + i) (A 1 ((cut + 1) + i)))) B locs := hm
      refine n_inc (a := i) (lv' := [(4, .int (nI (i + 1))), (0, .ref x), (1, .int (bI bb)), (2, .int (nI nn)), (3, .int (nI cut))]) hx hb d_M_takes_167 hl (k := 4) rfl (by decide) rfl (fun ls hl => ?_)
      refine lv_goto (tgt := 140) hx hb d_M_takes_170 (by decide) ?_
      rw [updA2, cpy_s] at hm
      exact ih (i + 1) H locs (by omega) (by omega) hm ls (lv_sub hl [1, 2, 3, 4, 0] rfl)
theorem nameM_le {T : List Nat} {a b : Nat} (h : nameM T a b = true) : b - a ≤ 10 := by
  unfold nameM at h
  split at h
  · rename_i q; exact q.2.1
  · cases h
set_option maxHeartbeats 4000000 in
set_option maxRecDepth 100000 in
/-- takes(false) -/
theorem c_M_takes0 (l : Launch) (g : gG) (H : Heap) (x : Nat) (ad : Nat → Nat) (F : Nat → Int32) (A : Nat → Nat → Int32) (B : Nat → Nat → Int64) (hm0 : mW g H x ad F A B) (T : List Nat) (hT : ∀ k, k < T.length → A 1 k = nI (T.getD k 0)) (hc : ∀ k, T.getD k 0 < 128) (hT24 : T.length ≤ 24) (hty : F 2 = nI T.length) : Met l y_M_takes (wC y_M_takes b_M_takes 5 (some .boolean)) (rmk 2 0 0 44) (pC g H [.ref x, .int (bI false)]) (qM g H x ad (fun v F1 A1 B1 => if nameM T 0 T.length = true then (v = some (.int 1) ∧ F1 = upd (upd (upd F 2 (nI 0)) 32 (nI T.length)) 33 (nI 0) ∧ A1 = updA A 30 (va_cpy (A 1) (A 30) 0 0 T.length) ∧ B1 = B) else (v = some (.int 0) ∧ F1 = upd F 2 (nI 0) ∧ A1 = A ∧ B1 = B))) 0 0 (mN x ad) := by
  refine mB (by decide) (Nat.le_of_ble_eq_true rfl) ?_
  intro p e s m below meth c ls C0 hH hZ hnm hl
  have C0 : cF g p s m _ meth c b_M_takes 5 "RegistryLogModel" (some .boolean) := C0
  obtain ⟨hx, hb, hml, hown, hts, hr, hlk, hK⟩ := id C0
  subst hH
  have hl : lv_has ls 5 [(0, .ref x), (1, .int (bI false))] := hl
  have hm := mS.rf hm0
  refine lv_aload_n hx hb d_M_takes_0 rfl (lv_at hl 0 rfl) ?_
  refine m_get hx hb hts hown hK hm 2 (by decide) (hts (.fieldLink "RegistryLogModel" 112 "RegistryLogModel" "typed" "I") (in_4 (List.mem_of_getElem? (i := 211) rfl) rfl)) rfl (v := .int (nI T.length)) (congrArg (fun z => some (Value.int z)) hty) d_M_takes_1 ?_
  refine lv_istore_n (lv' := [(2, .int (nI T.length)), (0, .ref x), (1, .int (bI false))]) hx hb d_M_takes_4 rfl hl (by decide) rfl (fun ls hl => ?_)
  refine lv_aload_n hx hb d_M_takes_5 rfl (lv_at hl 1 rfl) ?_
  refine lv_iconst (v := nI 0) hx hb d_M_takes_6 (by decide) ?_
  refine m_put hx hb hts hown hK hm 2 (by decide) (hts (.fieldLink "RegistryLogModel" 112 "RegistryLogModel" "typed" "I") (in_4 (List.mem_of_getElem? (i := 211) rfl) rfl)) rfl rfl (v := nI 0) rfl rfl rfl rfl d_M_takes_7 (fun H locs hm => ?_)
  refine lv_iload_n hx hb d_M_takes_10 rfl (lv_at hl 0 rfl) ?_
  refine lv_istore_n (lv' := [(3, .int (nI T.length)), (2, .int (nI T.length)), (0, .ref x), (1, .int (bI false))]) hx hb d_M_takes_11 rfl hl (by decide) rfl (fun ls hl => ?_)
  have J : ∀ (ls : Array Slot), lv_has ls 5 [(0, .ref x), (1, .int (bI false)), (2, .int (nI T.length)), (3, .int (nI T.length))] → W p l e (rmk 2 0 0 44) s m ([.ref x, .int (bI false)] : List Value).toArray below meth c H locs 0 0 (MQ below (qM g s.heap x ad (fun v F1 A1 B1 => if nameM T 0 T.length = true then (v = some (.int 1) ∧ F1 = upd (upd (upd F 2 (nI 0)) 32 (nI T.length)) 33 (nI 0) ∧ A1 = updA A 30 (va_cpy (A 1) (A 30) 0 0 T.length) ∧ B1 = B) else (v = some (.int 0) ∧ F1 = upd F 2 (nI 0) ∧ A1 = A ∧ B1 = B))) ([.ref x, .int (bI false)] : List Value).toArray s 0 0 (mN x ad)) (F0 m 51 ls []) := by
    intro ls hl
    refine lv_iload_n hx hb d_M_takes_51 rfl (lv_at hl 1 rfl) ?_
    refine z_eq (tgt := 60) (v := false) hx hb d_M_takes_52 (by decide) (fun c52 => ?_) (fun c52 => ?_)
    · skip
      refine lv_aload_n hx hb d_M_takes_60 rfl (lv_at hl 0 rfl) ?_
      refine lv_iconst (v := nI 0) hx hb d_M_takes_61 (by decide) ?_
      refine lv_iload_n hx hb d_M_takes_62 rfl (lv_at hl 3 rfl) ?_
      refine aP (rV (As := [.int (nI 0), .int (nI T.length)]) (rest := []) C0 (c_M_isName l g _ x ad _ _ _ hm.1 T hT hc hT24 0 T.length (Nat.zero_le _) (Nat.le_refl _)) (m_zK hZ hm) k_M_takes_63 rfl rfl ⟨Nat.le_of_ble_eq_true rfl, Nat.le_of_ble_eq_true rfl⟩ (m_recv hK hm) rfl hl.1 rfl (Nat.le_of_ble_eq_true rfl) d_M_takes_63 ⟨Nat.zero_le _, Nat.zero_le _⟩) ?_
      intro v hv; subst hv
      refine W.eq (g2 := F0 m 66 ls [.int (bI (nameM T 0 T.length))]) rfl ?_
      refine z_eq (tgt := 84) (v := nameM T 0 T.length) hx hb d_M_takes_66 (by decide) (fun c66 => ?_) (fun c66 => ?_)
      · skip
        refine lv_iconst (v := nI 0) hx hb d_M_takes_84 (by decide) ?_
        exact W.zret hx hb hr rfl (fun t9 ht hW => ⟨_, _, _, _, rfl, by rw [ht]; exact ⟨hm.1, hm.2.1, hm.2.2.1, fun _ h => by cases h⟩, by (try dsimp only); rw [if_neg (by rw [c66]; decide)]; exact ⟨rfl, rfl, rfl, rfl⟩⟩) hm.2.2.2 d_M_takes_85 hlk
      · skip
        refine lv_iload_n hx hb d_M_takes_69 rfl (lv_at hl 1 rfl) ?_
        refine z_eq (tgt := 86) (v := false) hx hb d_M_takes_70 (by decide) (fun c70 => ?_) (fun c70 => ?_)
        · skip
          refine lv_aload_n hx hb d_M_takes_86 rfl (lv_at hl 0 rfl) ?_
          refine lv_iload_n hx hb d_M_takes_87 rfl (lv_at hl 3 rfl) ?_
          refine m_put hx hb hts hown hK hm 32 (by decide) (hts (.fieldLink "RegistryLogModel" 123 "RegistryLogModel" "oneSize" "I") (in_5 (List.mem_of_getElem? (i := 1) rfl) rfl)) rfl rfl (v := nI T.length) rfl rfl rfl rfl d_M_takes_88 (fun H locs hm => ?_)
          refine lv_iconst (v := nI 0) hx hb d_M_takes_91 (by decide) ?_
          refine lv_istore (lv' := [(4, .int (nI 0)), (0, .ref x), (1, .int (bI false)), (2, .int (nI T.length)), (3, .int (nI T.length))]) hx hb d_M_takes_92 hl (by decide) rfl (fun ls hl => ?_)
          have h10 := nameM_le c66
          refine lp_M_takes1 C0 (F := (upd (upd F 2 (nI 0)) 32 (nI T.length))) (A := A) false T.length T.length (by omega) (fun H locs hm ls hl => ?_) (T.length + 1) 0 H locs (Nat.zero_le _) (by omega) (by rw [cpy_0, updA_id]; exact hm) ls (lv_sub hl [1, 2, 3, 4, 0] rfl)
          refine lv_aload_n hx hb d_M_takes_120 rfl (lv_at hl 0 rfl) ?_
          refine lv_iload_n hx hb d_M_takes_121 rfl (lv_at hl 1 rfl) ?_
          refine z_eq (tgt := 133) (v := false) hx hb d_M_takes_122 (by decide) (fun c122 => ?_) (fun c122 => ?_)
          · skip
            refine lv_iconst (v := nI 0) hx hb d_M_takes_133 (by decide) ?_
            refine m_put hx hb hts hown hK hm 33 (by decide) (hts (.fieldLink "RegistryLogModel" 126 "RegistryLogModel" "twoSize" "I") (in_5 (List.mem_of_getElem? (i := 2) rfl) rfl)) rfl rfl (v := nI 0) rfl rfl rfl rfl d_M_takes_134 (fun H locs hm => ?_)
            refine lv_iconst (v := nI 0) hx hb d_M_takes_137 (by decide) ?_
            refine lv_istore (lv' := [(4, .int (nI 0)), (0, .ref x), (1, .int (bI false)), (2, .int (nI T.length)), (3, .int (nI T.length))]) hx hb d_M_takes_138 hl (by decide) rfl (fun ls hl => ?_)
            refine lv_iload hx hb d_M_takes_140 (lv_at hl 0 rfl) ?_
            refine lv_aload_n hx hb d_M_takes_142 rfl (lv_at hl 1 rfl) ?_
            refine m_get hx hb hts hown hK hm 33 (by decide) (hts (.fieldLink "RegistryLogModel" 126 "RegistryLogModel" "twoSize" "I") (in_5 (List.mem_of_getElem? (i := 2) rfl) rfl)) rfl (v := .int (nI 0)) rfl d_M_takes_143 ?_
            refine lv_icmp_ge (tgt := 173) hx hb d_M_takes_146 (by decide) (fun c146 => ?_) (fun c146 => ?_)
            · skip
              refine lv_iconst (v := nI 1) hx hb d_M_takes_173 (by decide) ?_
              exact W.zret hx hb hr rfl (fun t9 ht hW => ⟨_, _, _, _, rfl, by rw [ht]; exact ⟨hm.1, hm.2.1, hm.2.2.1, fun _ h => by cases h⟩, by (try dsimp only); rw [if_pos c66]; exact ⟨rfl, rfl, rfl, rfl⟩⟩) hm.2.2.2 d_M_takes_174 hlk
            · skip
              first | exact absurd c146 (by decide) | exact absurd (by decide) c146
          · skip
            first | exact absurd c122 (by decide) | exact absurd (by decide) c122
        · skip
          first | exact absurd c70 (by decide) | exact absurd (by decide) c70
    · skip
      first | exact absurd c52 (by decide) | exact absurd (by decide) c52
  refine lv_iload_n hx hb d_M_takes_12 rfl (lv_at hl 1 rfl) ?_
  refine lv_iconst (v := nI 1) hx hb d_M_takes_13 (by decide) ?_
  refine lv_isub hx hb d_M_takes_14 ?_
  refine lv_topi (fun x_1 ex_1 => ?_)
  refine lv_istore (lv' := [(4, .int x_1), (3, .int (nI T.length)), (2, .int (nI T.length)), (0, .ref x), (1, .int (bI false))]) hx hb d_M_takes_15 hl (by decide) rfl (fun ls hl => ?_)
  refine lv_iload hx hb d_M_takes_17 (lv_at hl 0 rfl) ?_
  refine lv_if_lt (tgt := 51) hx hb d_M_takes_19 (by decide) (fun c19 => ?_) (fun c19 => ?_)
  · skip
    exact J ls (lv_sub hl [3, 4, 2, 1] rfl)
  · skip
    refine lv_iload_n hx hb d_M_takes_22 rfl (lv_at hl 4 rfl) ?_
    refine z_eq (tgt := 51) (v := false) hx hb d_M_takes_23 (by decide) (fun c23 => ?_) (fun c23 => ?_)
    · skip
      exact J ls (lv_sub hl [3, 4, 2, 1] rfl)
    · skip
      first | exact absurd c23 (by decide) | exact absurd (by decide) c23
end
