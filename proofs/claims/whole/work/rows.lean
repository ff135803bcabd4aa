section
-- ===== PART A: goes FIRST, ahead of the names: the tables' words, and 'selects' of the private methods out of them =====
/-- a private method of a class that the tables say can be made, by its rows of tables_1 -/
def lw_okq (q : MethodName × Nat) : Prop := (q.1.cls ≠ "java/lang/invoke/MethodHandle" ∧ q.1.cls ≠ "java/lang/invoke/VarHandle") ∧ Cond.instantiable q.1.cls q.2 ∈ tables_1 ∧ Cond.privateMethod q.1 ∈ tables_1 ∧ Cond.instanceMethod q.1 ∈ tables_1
theorem lw_p0 : lw_okq (⟨"java/lang/Throwable", "fillInStackTrace", "(I)Ljava/lang/Throwable;"⟩, 6) := ⟨⟨by decide +kernel, by decide +kernel⟩, List.mem_of_getElem? (i := 281) (by decide +kernel), List.mem_of_getElem? (i := 279) (by decide +kernel), List.mem_of_getElem? (i := 280) (by decide +kernel)⟩
theorem lw_p1 : lw_okq (⟨"RegistryLog", "mirrorOf", "(I)LRegistryLog$Ledger;"⟩, 6) := ⟨⟨by decide +kernel, by decide +kernel⟩, List.mem_of_getElem? (i := 27) (by decide +kernel), List.mem_of_getElem? (i := 640) (by decide +kernel), List.mem_of_getElem? (i := 641) (by decide +kernel)⟩
theorem lw_p2 : lw_okq (⟨"RegistryLog", "ledgerOf", "(I)LRegistryLog$Ledger;"⟩, 6) := ⟨⟨by decide +kernel, by decide +kernel⟩, List.mem_of_getElem? (i := 27) (by decide +kernel), List.mem_of_getElem? (i := 675) (by decide +kernel), List.mem_of_getElem? (i := 676) (by decide +kernel)⟩
theorem lw_p3 : lw_okq (⟨"RegistryLog", "takeName", "()LRegistryLog$Name;"⟩, 6) := ⟨⟨by decide +kernel, by decide +kernel⟩, List.mem_of_getElem? (i := 27) (by decide +kernel), List.mem_of_getElem? (i := 679) (by decide +kernel), List.mem_of_getElem? (i := 680) (by decide +kernel)⟩
theorem lw_p4 : lw_okq (⟨"RegistryLog", "takeText", "()Ljava/lang/String;"⟩, 6) := ⟨⟨by decide +kernel, by decide +kernel⟩, List.mem_of_getElem? (i := 27) (by decide +kernel), List.mem_of_getElem? (i := 684) (by decide +kernel), List.mem_of_getElem? (i := 685) (by decide +kernel)⟩
theorem lw_p5 : lw_okq (⟨"RegistryLog", "write", "(LRegistryLog$Row;)I"⟩, 6) := ⟨⟨by decide +kernel, by decide +kernel⟩, List.mem_of_getElem? (i := 27) (by decide +kernel), List.mem_of_getElem? (i := 825) (by decide +kernel), List.mem_of_getElem? (i := 826) (by decide +kernel)⟩
theorem lw_p6 : lw_okq (⟨"RegistryLogModel", "takes", "(Z)Z"⟩, 46) := ⟨⟨by decide +kernel, by decide +kernel⟩, List.mem_of_getElem? (i := 924) (by decide +kernel), List.mem_of_getElem? (i := 1083) (by decide +kernel), List.mem_of_getElem? (i := 1084) (by decide +kernel)⟩
theorem lw_p7 : lw_okq (⟨"RegistryLogModel", "isName", "(II)Z"⟩, 46) := ⟨⟨by decide +kernel, by decide +kernel⟩, List.mem_of_getElem? (i := 924) (by decide +kernel), List.mem_of_getElem? (i := 1087) (by decide +kernel), List.mem_of_getElem? (i := 1088) (by decide +kernel)⟩
theorem lw_p8 : lw_okq (⟨"RegistryLogModel", "goThrough", "(I)V"⟩, 46) := ⟨⟨by decide +kernel, by decide +kernel⟩, List.mem_of_getElem? (i := 924) (by decide +kernel), List.mem_of_getElem? (i := 1100) (by decide +kernel), List.mem_of_getElem? (i := 1101) (by decide +kernel)⟩
theorem lw_p9 : lw_okq (⟨"RegistryLogModel", "met", "([III)I"⟩, 46) := ⟨⟨by decide +kernel, by decide +kernel⟩, List.mem_of_getElem? (i := 924) (by decide +kernel), List.mem_of_getElem? (i := 1104) (by decide +kernel), List.mem_of_getElem? (i := 1105) (by decide +kernel)⟩
theorem lw_p10 : lw_okq (⟨"RegistryLogModel", "meet", "([IIII)I"⟩, 46) := ⟨⟨by decide +kernel, by decide +kernel⟩, List.mem_of_getElem? (i := 924) (by decide +kernel), List.mem_of_getElem? (i := 1108) (by decide +kernel), List.mem_of_getElem? (i := 1109) (by decide +kernel)⟩
theorem lw_p11 : lw_okq (⟨"RegistryLogModel", "versionAt", "(II)I"⟩, 46) := ⟨⟨by decide +kernel, by decide +kernel⟩, List.mem_of_getElem? (i := 924) (by decide +kernel), List.mem_of_getElem? (i := 1112) (by decide +kernel), List.mem_of_getElem? (i := 1113) (by decide +kernel)⟩
theorem lw_p12 : lw_okq (⟨"RegistryLogModel", "isFree", "([III)Z"⟩, 46) := ⟨⟨by decide +kernel, by decide +kernel⟩, List.mem_of_getElem? (i := 924) (by decide +kernel), List.mem_of_getElem? (i := 1116) (by decide +kernel), List.mem_of_getElem? (i := 1117) (by decide +kernel)⟩
theorem lw_p13 : lw_okq (⟨"RegistryLogModel", "isNear", "([III)Z"⟩, 46) := ⟨⟨by decide +kernel, by decide +kernel⟩, List.mem_of_getElem? (i := 924) (by decide +kernel), List.mem_of_getElem? (i := 1120) (by decide +kernel), List.mem_of_getElem? (i := 1121) (by decide +kernel)⟩
theorem lw_p14 : lw_okq (⟨"RegistryLogModel", "hasRight", "(II)Z"⟩, 46) := ⟨⟨by decide +kernel, by decide +kernel⟩, List.mem_of_getElem? (i := 924) (by decide +kernel), List.mem_of_getElem? (i := 1127) (by decide +kernel), List.mem_of_getElem? (i := 1128) (by decide +kernel)⟩
theorem lw_p15 : lw_okq (⟨"RegistryLogModel", "isKnown", "(I)Z"⟩, 46) := ⟨⟨by decide +kernel, by decide +kernel⟩, List.mem_of_getElem? (i := 924) (by decide +kernel), List.mem_of_getElem? (i := 1131) (by decide +kernel), List.mem_of_getElem? (i := 1132) (by decide +kernel)⟩
def lw_privs_1 : List (MethodName × Nat) := [(⟨"java/lang/Throwable", "fillInStackTrace", "(I)Ljava/lang/Throwable;"⟩, 6), (⟨"RegistryLog", "mirrorOf", "(I)LRegistryLog$Ledger;"⟩, 6), (⟨"RegistryLog", "ledgerOf", "(I)LRegistryLog$Ledger;"⟩, 6), (⟨"RegistryLog", "takeName", "()LRegistryLog$Name;"⟩, 6), (⟨"RegistryLog", "takeText", "()Ljava/lang/String;"⟩, 6), (⟨"RegistryLog", "write", "(LRegistryLog$Row;)I"⟩, 6), (⟨"RegistryLogModel", "takes", "(Z)Z"⟩, 46), (⟨"RegistryLogModel", "isName", "(II)Z"⟩, 46), (⟨"RegistryLogModel", "goThrough", "(I)V"⟩, 46), (⟨"RegistryLogModel", "met", "([III)I"⟩, 46), (⟨"RegistryLogModel", "meet", "([IIII)I"⟩, 46), (⟨"RegistryLogModel", "versionAt", "(II)I"⟩, 46), (⟨"RegistryLogModel", "isFree", "([III)Z"⟩, 46), (⟨"RegistryLogModel", "isNear", "([III)Z"⟩, 46), (⟨"RegistryLogModel", "hasRight", "(II)Z"⟩, 46), (⟨"RegistryLogModel", "isKnown", "(I)Z"⟩, 46)]
theorem lw_r1 : ∀ q ∈ lw_privs_1, lw_okq q := List.forall_mem_cons.mpr ⟨lw_p0, List.forall_mem_cons.mpr ⟨lw_p1, List.forall_mem_cons.mpr ⟨lw_p2, List.forall_mem_cons.mpr ⟨lw_p3, List.forall_mem_cons.mpr ⟨lw_p4, List.forall_mem_cons.mpr ⟨lw_p5, List.forall_mem_cons.mpr ⟨lw_p6, List.forall_mem_cons.mpr ⟨lw_p7, List.forall_mem_cons.mpr ⟨lw_p8, List.forall_mem_cons.mpr ⟨lw_p9, List.forall_mem_cons.mpr ⟨lw_p10, List.forall_mem_cons.mpr ⟨lw_p11, List.forall_mem_cons.mpr ⟨lw_p12, List.forall_mem_cons.mpr ⟨lw_p13, List.forall_mem_cons.mpr ⟨lw_p14, List.forall_mem_cons.mpr ⟨lw_p15, fun _ h => absurd h List.not_mem_nil⟩⟩⟩⟩⟩⟩⟩⟩⟩⟩⟩⟩⟩⟩⟩⟩
theorem lw_p16 : lw_okq (⟨"RegistryLogModel", "isFull", "()Z"⟩, 46) := ⟨⟨by decide +kernel, by decide +kernel⟩, List.mem_of_getElem? (i := 924) (by decide +kernel), List.mem_of_getElem? (i := 1135) (by decide +kernel), List.mem_of_getElem? (i := 1136) (by decide +kernel)⟩
theorem lw_p17 : lw_okq (⟨"RegistryLogModel", "refuses", "(ZZ)Z"⟩, 46) := ⟨⟨by decide +kernel, by decide +kernel⟩, List.mem_of_getElem? (i := 924) (by decide +kernel), List.mem_of_getElem? (i := 1139) (by decide +kernel), List.mem_of_getElem? (i := 1140) (by decide +kernel)⟩
theorem lw_p18 : lw_okq (⟨"RegistryLogModel", "write", "(IIII)I"⟩, 46) := ⟨⟨by decide +kernel, by decide +kernel⟩, List.mem_of_getElem? (i := 924) (by decide +kernel), List.mem_of_getElem? (i := 1143) (by decide +kernel), List.mem_of_getElem? (i := 1144) (by decide +kernel)⟩
theorem lw_p19 : lw_okq (⟨"RegistryLogModel", "isFounder", "(II)Z"⟩, 46) := ⟨⟨by decide +kernel, by decide +kernel⟩, List.mem_of_getElem? (i := 924) (by decide +kernel), List.mem_of_getElem? (i := 1155) (by decide +kernel), List.mem_of_getElem? (i := 1156) (by decide +kernel)⟩
theorem lw_p20 : lw_okq (⟨"RegistryLogModel", "isRow", "(I)Z"⟩, 46) := ⟨⟨by decide +kernel, by decide +kernel⟩, List.mem_of_getElem? (i := 924) (by decide +kernel), List.mem_of_getElem? (i := 1171) (by decide +kernel), List.mem_of_getElem? (i := 1172) (by decide +kernel)⟩
theorem lw_p21 : lw_okq (⟨"RegistryLogModel", "digestOf", "(II)J"⟩, 46) := ⟨⟨by decide +kernel, by decide +kernel⟩, List.mem_of_getElem? (i := 924) (by decide +kernel), List.mem_of_getElem? (i := 1179) (by decide +kernel), List.mem_of_getElem? (i := 1180) (by decide +kernel)⟩
theorem lw_p22 : lw_okq (⟨"RegistryLogModel", "headOf", "(III)J"⟩, 46) := ⟨⟨by decide +kernel, by decide +kernel⟩, List.mem_of_getElem? (i := 924) (by decide +kernel), List.mem_of_getElem? (i := 1192) (by decide +kernel), List.mem_of_getElem? (i := 1193) (by decide +kernel)⟩
theorem lw_p23 : lw_okq (⟨"RegistryLogModel", "goDown", "(IIZ)V"⟩, 46) := ⟨⟨by decide +kernel, by decide +kernel⟩, List.mem_of_getElem? (i := 924) (by decide +kernel), List.mem_of_getElem? (i := 1203) (by decide +kernel), List.mem_of_getElem? (i := 1204) (by decide +kernel)⟩
theorem lw_p24 : lw_okq (⟨"RegistryLogModel", "prove", "(J)V"⟩, 46) := ⟨⟨by decide +kernel, by decide +kernel⟩, List.mem_of_getElem? (i := 924) (by decide +kernel), List.mem_of_getElem? (i := 1210) (by decide +kernel), List.mem_of_getElem? (i := 1211) (by decide +kernel)⟩
theorem lw_p25 : lw_okq (⟨"RegistryLogModel", "asked", "(I)I"⟩, 46) := ⟨⟨by decide +kernel, by decide +kernel⟩, List.mem_of_getElem? (i := 924) (by decide +kernel), List.mem_of_getElem? (i := 1257) (by decide +kernel), List.mem_of_getElem? (i := 1258) (by decide +kernel)⟩
theorem lw_p26 : lw_okq (⟨"RegistryLogModel", "versionAsked", "(II)I"⟩, 46) := ⟨⟨by decide +kernel, by decide +kernel⟩, List.mem_of_getElem? (i := 924) (by decide +kernel), List.mem_of_getElem? (i := 1269) (by decide +kernel), List.mem_of_getElem? (i := 1270) (by decide +kernel)⟩
def lw_privs_2 : List (MethodName × Nat) := [(⟨"RegistryLogModel", "isFull", "()Z"⟩, 46), (⟨"RegistryLogModel", "refuses", "(ZZ)Z"⟩, 46), (⟨"RegistryLogModel", "write", "(IIII)I"⟩, 46), (⟨"RegistryLogModel", "isFounder", "(II)Z"⟩, 46), (⟨"RegistryLogModel", "isRow", "(I)Z"⟩, 46), (⟨"RegistryLogModel", "digestOf", "(II)J"⟩, 46), (⟨"RegistryLogModel", "headOf", "(III)J"⟩, 46), (⟨"RegistryLogModel", "goDown", "(IIZ)V"⟩, 46), (⟨"RegistryLogModel", "prove", "(J)V"⟩, 46), (⟨"RegistryLogModel", "asked", "(I)I"⟩, 46), (⟨"RegistryLogModel", "versionAsked", "(II)I"⟩, 46)]
theorem lw_r2 : ∀ q ∈ lw_privs_2, lw_okq q := List.forall_mem_cons.mpr ⟨lw_p16, List.forall_mem_cons.mpr ⟨lw_p17, List.forall_mem_cons.mpr ⟨lw_p18, List.forall_mem_cons.mpr ⟨lw_p19, List.forall_mem_cons.mpr ⟨lw_p20, List.forall_mem_cons.mpr ⟨lw_p21, List.forall_mem_cons.mpr ⟨lw_p22, List.forall_mem_cons.mpr ⟨lw_p23, List.forall_mem_cons.mpr ⟨lw_p24, List.forall_mem_cons.mpr ⟨lw_p25, List.forall_mem_cons.mpr ⟨lw_p26, fun _ h => absurd h List.not_mem_nil⟩⟩⟩⟩⟩⟩⟩⟩⟩⟩⟩
def lw_privs : List (MethodName × Nat) := lw_privs_1 ++ (lw_privs_2)
def lw_tbl : List Cond := k2_sels lw_privs ++ tables_1
theorem lw_privs_ok : ∀ q ∈ lw_privs, lw_okq q := by
  show ∀ q ∈ lw_privs_1 ++ (lw_privs_2), lw_okq q
  exact List.forall_mem_append.mpr ⟨lw_r1, lw_r2⟩
end
section
/-- the words that every method takes along -/
def gT : List Cond := lw_tbl.filter goodWord
theorem gT_good : ∀ w ∈ gT, goodWord w = true := fun w h => (List.mem_filter.mp h).2
theorem in_0 {w : Cond} (h : w ∈ k2_sels lw_privs) (hg : goodWord w = true) : w ∈ gT := List.mem_filter.mpr ⟨List.mem_append_left _ h, hg⟩
theorem at_1 {w : Cond} (h : w ∈ tables_1_1) : w ∈ lw_tbl := List.mem_append_right (k2_sels lw_privs) (show w ∈ tables_1 from List.mem_append_left _ h)
theorem in_1 {w : Cond} (h : w ∈ tables_1_1) (hg : goodWord w = true) : w ∈ gT := List.mem_filter.mpr ⟨at_1 h, hg⟩
theorem at_2 {w : Cond} (h : w ∈ tables_1_2) : w ∈ lw_tbl := List.mem_append_right (k2_sels lw_privs) (show w ∈ tables_1 from List.mem_append_right _ (List.mem_append_left _ h))
theorem in_2 {w : Cond} (h : w ∈ tables_1_2) (hg : goodWord w = true) : w ∈ gT := List.mem_filter.mpr ⟨at_2 h, hg⟩
theorem at_3 {w : Cond} (h : w ∈ tables_1_3) : w ∈ lw_tbl := List.mem_append_right (k2_sels lw_privs) (show w ∈ tables_1 from List.mem_append_right _ (List.mem_append_right _ (List.mem_append_left _ h)))
theorem in_3 {w : Cond} (h : w ∈ tables_1_3) (hg : goodWord w = true) : w ∈ gT := List.mem_filter.mpr ⟨at_3 h, hg⟩
theorem at_4 {w : Cond} (h : w ∈ tables_1_4) : w ∈ lw_tbl := List.mem_append_right (k2_sels lw_privs) (show w ∈ tables_1 from List.mem_append_right _ (List.mem_append_right _ (List.mem_append_right _ (List.mem_append_left _ h))))
theorem in_4 {w : Cond} (h : w ∈ tables_1_4) (hg : goodWord w = true) : w ∈ gT := List.mem_filter.mpr ⟨at_4 h, hg⟩
theorem at_5 {w : Cond} (h : w ∈ tables_1_5) : w ∈ lw_tbl := List.mem_append_right (k2_sels lw_privs) (show w ∈ tables_1 from List.mem_append_right _ (List.mem_append_right _ (List.mem_append_right _ (List.mem_append_right _ (List.mem_append_left _ h)))))
theorem in_5 {w : Cond} (h : w ∈ tables_1_5) (hg : goodWord w = true) : w ∈ gT := List.mem_filter.mpr ⟨at_5 h, hg⟩
theorem at_6 {w : Cond} (h : w ∈ tables_1_6) : w ∈ lw_tbl := List.mem_append_right (k2_sels lw_privs) (show w ∈ tables_1 from List.mem_append_right _ (List.mem_append_right _ (List.mem_append_right _ (List.mem_append_right _ (List.mem_append_right _ (h))))))
theorem in_6 {w : Cond} (h : w ∈ tables_1_6) (hg : goodWord w = true) : w ∈ gT := List.mem_filter.mpr ⟨at_6 h, hg⟩
def R_X : String := "RegistryLog"
def F_X : u_T := fun k => match k with
  | 0 => ("RegistryLog", "text", "Ljava/lang/StringBuilder;", true)
  | 1 => ("RegistryLog", "log", "LRegistryLog$Ledger;", true)
  | 2 => ("RegistryLog", "mirrors", "[LRegistryLog$Ledger;", true)
  | 3 => ("RegistryLog", "noMirror", "LRegistryLog$Ledger;", true)
  | 4 => ("RegistryLog", "latestProof", "LRegistryLog$Numbers;", true)
  | _ => ("RegistryLog", "hand", "LRegistryLog$Numbers;", true)
def t_X : Nat → FieldType := fun k => match k with
  | 0 => .object "java/lang/StringBuilder"
  | 1 => .object "RegistryLog$Ledger"
  | 2 => .array (.object "RegistryLog$Ledger")
  | 3 => .object "RegistryLog$Ledger"
  | 4 => .object "RegistryLog$Numbers"
  | _ => .object "RegistryLog$Numbers"
theorem n_X : ∀ a, a < 6 → ∀ b, b < 6 → a ≠ b → (F_X a).2.1 ≠ (F_X b).2.1 := by decide +kernel
theorem t_X_ok : ∀ k, k < 6 → parseFieldDescriptor (F_X k).2.2.1 = some (t_X k) := by decide +kernel
theorem i_X : ∀ w ∈ u_ws R_X F_X 6, w ∈ gT := List.forall_mem_cons.mpr ⟨(in_3 (List.mem_of_getElem? (i := 15) rfl) rfl), List.forall_mem_cons.mpr ⟨(in_3 (List.mem_of_getElem? (i := 17) rfl) rfl), List.forall_mem_cons.mpr ⟨(in_3 (List.mem_of_getElem? (i := 19) rfl) rfl), List.forall_mem_cons.mpr ⟨(in_3 (List.mem_of_getElem? (i := 21) rfl) rfl), List.forall_mem_cons.mpr ⟨(in_3 (List.mem_of_getElem? (i := 23) rfl) rfl), List.forall_mem_cons.mpr ⟨(in_3 (List.mem_of_getElem? (i := 25) rfl) rfl), (fun _ h => absurd h List.not_mem_nil)⟩⟩⟩⟩⟩⟩
def R_L : String := "RegistryLog$Ledger"
def F_L : u_T := fun k => match k with
  | 0 => ("RegistryLog$Ledger", "written", "[LRegistryLog$Row;", true)
  | 1 => ("RegistryLog$Ledger", "noRow", "LRegistryLog$Row;", true)
  | _ => ("RegistryLog$Ledger", "count", "I", false)
def t_L : Nat → FieldType := fun k => match k with
  | 0 => .array (.object "RegistryLog$Row")
  | 1 => .object "RegistryLog$Row"
  | _ => .int
theorem n_L : ∀ a, a < 3 → ∀ b, b < 3 → a ≠ b → (F_L a).2.1 ≠ (F_L b).2.1 := by decide +kernel
theorem t_L_ok : ∀ k, k < 3 → parseFieldDescriptor (F_L k).2.2.1 = some (t_L k) := by decide +kernel
theorem i_L : ∀ w ∈ u_ws R_L F_L 3, w ∈ gT := List.forall_mem_cons.mpr ⟨(in_2 (List.mem_of_getElem? (i := 224) rfl) rfl), List.forall_mem_cons.mpr ⟨(in_2 (List.mem_of_getElem? (i := 226) rfl) rfl), List.forall_mem_cons.mpr ⟨(in_2 (List.mem_of_getElem? (i := 228) rfl) rfl), (fun _ h => absurd h List.not_mem_nil)⟩⟩⟩
def R_N : String := "RegistryLog$Name"
def F_N : u_T := fun k => match k with
  | 0 => ("RegistryLog$Name", "typed", "Ljava/lang/String;", true)
  | _ => ("RegistryLog$Name", "folded", "Ljava/lang/String;", true)
def t_N : Nat → FieldType := fun k => match k with
  | 0 => .object "java/lang/String"
  | _ => .object "java/lang/String"
theorem n_N : ∀ a, a < 2 → ∀ b, b < 2 → a ≠ b → (F_N a).2.1 ≠ (F_N b).2.1 := by decide +kernel
theorem t_N_ok : ∀ k, k < 2 → parseFieldDescriptor (F_N k).2.2.1 = some (t_N k) := by decide +kernel
theorem i_N : ∀ w ∈ u_ws R_N F_N 2, w ∈ gT := List.forall_mem_cons.mpr ⟨(in_2 (List.mem_of_getElem? (i := 160) rfl) rfl), List.forall_mem_cons.mpr ⟨(in_2 (List.mem_of_getElem? (i := 162) rfl) rfl), (fun _ h => absurd h List.not_mem_nil)⟩⟩
def R_U : String := "RegistryLog$Numbers"
def F_U : u_T := fun k => match k with
  | 0 => ("RegistryLog$Numbers", "values", "[J", true)
  | 1 => ("RegistryLog$Numbers", "count", "I", false)
  | _ => ("RegistryLog$Numbers", "asked", "I", false)
def t_U : Nat → FieldType := fun k => match k with
  | 0 => .array .long
  | 1 => .int
  | _ => .int
theorem n_U : ∀ a, a < 3 → ∀ b, b < 3 → a ≠ b → (F_U a).2.1 ≠ (F_U b).2.1 := by decide +kernel
theorem t_U_ok : ∀ k, k < 3 → parseFieldDescriptor (F_U k).2.2.1 = some (t_U k) := by decide +kernel
theorem i_U : ∀ w ∈ u_ws R_U F_U 3, w ∈ gT := List.forall_mem_cons.mpr ⟨(in_3 (List.mem_of_getElem? (i := 1) rfl) rfl), List.forall_mem_cons.mpr ⟨(in_3 (List.mem_of_getElem? (i := 3) rfl) rfl), List.forall_mem_cons.mpr ⟨(in_3 (List.mem_of_getElem? (i := 5) rfl) rfl), (fun _ h => absurd h List.not_mem_nil)⟩⟩⟩
def R_R : String := "RegistryLog$Row"
def F_R : u_T := fun k => match k with
  | 0 => ("RegistryLog$Row", "kind", "I", true)
  | 1 => ("RegistryLog$Row", "person", "I", true)
  | 2 => ("RegistryLog$Row", "name", "LRegistryLog$Name;", true)
  | 3 => ("RegistryLog$Row", "nameAfter", "LRegistryLog$Name;", true)
  | 4 => ("RegistryLog$Row", "second", "I", true)
  | 5 => ("RegistryLog$Row", "third", "I", true)
  | 6 => ("RegistryLog$Row", "origin", "I", true)
  | _ => ("RegistryLog$Row", "digest", "J", true)
def t_R : Nat → FieldType := fun k => match k with
  | 0 => .int
  | 1 => .int
  | 2 => .object "RegistryLog$Name"
  | 3 => .object "RegistryLog$Name"
  | 4 => .int
  | 5 => .int
  | 6 => .int
  | _ => .long
theorem n_R : ∀ a, a < 8 → ∀ b, b < 8 → a ≠ b → (F_R a).2.1 ≠ (F_R b).2.1 := by decide +kernel
theorem t_R_ok : ∀ k, k < 8 → parseFieldDescriptor (F_R k).2.2.1 = some (t_R k) := by decide +kernel
theorem i_R : ∀ w ∈ u_ws R_R F_R 8, w ∈ gT := List.forall_mem_cons.mpr ⟨(in_2 (List.mem_of_getElem? (i := 203) rfl) rfl), List.forall_mem_cons.mpr ⟨(in_2 (List.mem_of_getElem? (i := 205) rfl) rfl), List.forall_mem_cons.mpr ⟨(in_2 (List.mem_of_getElem? (i := 207) rfl) rfl), List.forall_mem_cons.mpr ⟨(in_2 (List.mem_of_getElem? (i := 209) rfl) rfl), List.forall_mem_cons.mpr ⟨(in_2 (List.mem_of_getElem? (i := 211) rfl) rfl), List.forall_mem_cons.mpr ⟨(in_2 (List.mem_of_getElem? (i := 213) rfl) rfl), List.forall_mem_cons.mpr ⟨(in_2 (List.mem_of_getElem? (i := 215) rfl) rfl), List.forall_mem_cons.mpr ⟨(in_2 (List.mem_of_getElem? (i := 217) rfl) rfl), (fun _ h => absurd h List.not_mem_nil)⟩⟩⟩⟩⟩⟩⟩⟩
def R_H : String := "RegistryLog$TwoHeads"
def F_H : u_T := fun k => match k with
  | 0 => ("RegistryLog$TwoHeads", "shorter", "J", true)
  | _ => ("RegistryLog$TwoHeads", "longer", "J", true)
def t_H : Nat → FieldType := fun k => match k with
  | 0 => .long
  | _ => .long
theorem n_H : ∀ a, a < 2 → ∀ b, b < 2 → a ≠ b → (F_H a).2.1 ≠ (F_H b).2.1 := by decide +kernel
theorem t_H_ok : ∀ k, k < 2 → parseFieldDescriptor (F_H k).2.2.1 = some (t_H k) := by decide +kernel
theorem i_H : ∀ w ∈ u_ws R_H F_H 2, w ∈ gT := List.forall_mem_cons.mpr ⟨(in_3 (List.mem_of_getElem? (i := 146) rfl) rfl), List.forall_mem_cons.mpr ⟨(in_3 (List.mem_of_getElem? (i := 148) rfl) rfl), (fun _ h => absurd h List.not_mem_nil)⟩⟩
def R_S : String := "java/lang/String"
def F_S : u_T := fun k => match k with
  | 0 => ("java/lang/String", "value", "[B", true)
  | 1 => ("java/lang/String", "coder", "B", true)
  | 2 => ("java/lang/String", "hash", "I", false)
  | _ => ("java/lang/String", "hashIsZero", "Z", false)
def t_S : Nat → FieldType := fun k => match k with
  | 0 => .array .byte
  | 1 => .byte
  | 2 => .int
  | _ => .boolean
theorem n_S : ∀ a, a < 4 → ∀ b, b < 4 → a ≠ b → (F_S a).2.1 ≠ (F_S b).2.1 := by decide +kernel
theorem t_S_ok : ∀ k, k < 4 → parseFieldDescriptor (F_S k).2.2.1 = some (t_S k) := by decide +kernel
theorem i_S : ∀ w ∈ u_ws R_S F_S 4, w ∈ gT := List.forall_mem_cons.mpr ⟨(in_2 (List.mem_of_getElem? (i := 148) rfl) rfl), List.forall_mem_cons.mpr ⟨(in_2 (List.mem_of_getElem? (i := 150) rfl) rfl), List.forall_mem_cons.mpr ⟨(in_2 (List.mem_of_getElem? (i := 152) rfl) rfl), List.forall_mem_cons.mpr ⟨(in_2 (List.mem_of_getElem? (i := 154) rfl) rfl), (fun _ h => absurd h List.not_mem_nil)⟩⟩⟩⟩
def R_B : String := "java/lang/StringBuilder"
def F_B : u_T := fun k => match k with
  | 0 => ("java/lang/AbstractStringBuilder", "value", "[B", false)
  | 1 => ("java/lang/AbstractStringBuilder", "coder", "B", false)
  | 2 => ("java/lang/AbstractStringBuilder", "maybeLatin1", "Z", false)
  | _ => ("java/lang/AbstractStringBuilder", "count", "I", false)
def t_B : Nat → FieldType := fun k => match k with
  | 0 => .array .byte
  | 1 => .byte
  | 2 => .boolean
  | _ => .int
theorem n_B : ∀ a, a < 4 → ∀ b, b < 4 → a ≠ b → (F_B a).2.1 ≠ (F_B b).2.1 := by decide +kernel
theorem t_B_ok : ∀ k, k < 4 → parseFieldDescriptor (F_B k).2.2.1 = some (t_B k) := by decide +kernel
theorem i_B : ∀ w ∈ u_ws R_B F_B 4, w ∈ gT := List.forall_mem_cons.mpr ⟨(in_1 (List.mem_of_getElem? (i := 57) rfl) rfl), List.forall_mem_cons.mpr ⟨(in_1 (List.mem_of_getElem? (i := 59) rfl) rfl), List.forall_mem_cons.mpr ⟨(in_1 (List.mem_of_getElem? (i := 61) rfl) rfl), List.forall_mem_cons.mpr ⟨(in_1 (List.mem_of_getElem? (i := 63) rfl) rfl), (fun _ h => absurd h List.not_mem_nil)⟩⟩⟩⟩
def R_M : String := "RegistryLogModel"
def F_M : u_T := fun k => match k with
  | 0 => ("RegistryLogModel", "code", "I", false)
  | 1 => ("RegistryLogModel", "text", "[I", true)
  | 2 => ("RegistryLogModel", "typed", "I", false)
  | 3 => ("RegistryLogModel", "kind", "[I", true)
  | 4 => ("RegistryLogModel", "person", "[I", true)
  | 5 => ("RegistryLogModel", "first", "[I", true)
  | 6 => ("RegistryLogModel", "flag", "[I", true)
  | 7 => ("RegistryLogModel", "size", "[I", true)
  | 8 => ("RegistryLogModel", "otherSize", "[I", true)
  | 9 => ("RegistryLogModel", "letters", "[I", true)
  | 10 => ("RegistryLogModel", "otherLetters", "[I", true)
  | 11 => ("RegistryLogModel", "sums", "[I", true)
  | 12 => ("RegistryLogModel", "copied", "[I", true)
  | 13 => ("RegistryLogModel", "proof", "[J", true)
  | 14 => ("RegistryLogModel", "hand", "[J", true)
  | 15 => ("RegistryLogModel", "proofSize", "I", false)
  | 16 => ("RegistryLogModel", "handSize", "I", false)
  | 17 => ("RegistryLogModel", "nameLetters", "[I", true)
  | 18 => ("RegistryLogModel", "nameSize", "[I", true)
  | 19 => ("RegistryLogModel", "nameState", "[I", true)
  | 20 => ("RegistryLogModel", "nameOf", "[I", true)
  | 21 => ("RegistryLogModel", "founders", "[I", true)
  | 22 => ("RegistryLogModel", "rights", "[I", true)
  | 23 => ("RegistryLogModel", "versionOf", "[I", true)
  | 24 => ("RegistryLogModel", "versionNumber", "[I", true)
  | 25 => ("RegistryLogModel", "versionSum", "[I", true)
  | 26 => ("RegistryLogModel", "versionYanked", "[I", true)
  | 27 => ("RegistryLogModel", "names", "I", false)
  | 28 => ("RegistryLogModel", "owners", "I", false)
  | 29 => ("RegistryLogModel", "versions", "I", false)
  | 30 => ("RegistryLogModel", "one", "[I", true)
  | 31 => ("RegistryLogModel", "two", "[I", true)
  | 32 => ("RegistryLogModel", "oneSize", "I", false)
  | 33 => ("RegistryLogModel", "twoSize", "I", false)
  | 34 => ("RegistryLogModel", "foldA", "[I", true)
  | 35 => ("RegistryLogModel", "foldB", "[I", true)
  | 36 => ("RegistryLogModel", "tree", "[J", true)
  | 37 => ("RegistryLogModel", "parts", "[J", true)
  | 38 => ("RegistryLogModel", "otherFrom", "[I", true)
  | 39 => ("RegistryLogModel", "otherMany", "[I", true)
  | 40 => ("RegistryLogModel", "isSecond", "[Z", true)
  | 41 => ("RegistryLogModel", "steps", "I", false)
  | 42 => ("RegistryLogModel", "restFrom", "I", false)
  | 43 => ("RegistryLogModel", "restMany", "I", false)
  | 44 => ("RegistryLogModel", "restIn", "I", false)
  | _ => ("RegistryLogModel", "whole", "Z", false)
def t_M : Nat → FieldType := fun k => match k with
  | 0 => .int
  | 1 => .array .int
  | 2 => .int
  | 3 => .array .int
  | 4 => .array .int
  | 5 => .array .int
  | 6 => .array .int
  | 7 => .array .int
  | 8 => .array .int
  | 9 => .array .int
  | 10 => .array .int
  | 11 => .array .int
  | 12 => .array .int
  | 13 => .array .long
  | 14 => .array .long
  | 15 => .int
  | 16 => .int
  | 17 => .array .int
  | 18 => .array .int
  | 19 => .array .int
  | 20 => .array .int
  | 21 => .array .int
  | 22 => .array .int
  | 23 => .array .int
  | 24 => .array .int
  | 25 => .array .int
  | 26 => .array .int
  | 27 => .int
  | 28 => .int
  | 29 => .int
  | 30 => .array .int
  | 31 => .array .int
  | 32 => .int
  | 33 => .int
  | 34 => .array .int
  | 35 => .array .int
  | 36 => .array .long
  | 37 => .array .long
  | 38 => .array .int
  | 39 => .array .int
  | 40 => .array .boolean
  | 41 => .int
  | 42 => .int
  | 43 => .int
  | 44 => .int
  | _ => .boolean
theorem n_M : ∀ a, a < 46 → ∀ b, b < 46 → a ≠ b → (F_M a).2.1 ≠ (F_M b).2.1 := by decide +kernel
theorem t_M_ok : ∀ k, k < 46 → parseFieldDescriptor (F_M k).2.2.1 = some (t_M k) := by decide +kernel
theorem i_M : ∀ w ∈ u_ws R_M F_M 46, w ∈ gT := List.forall_mem_cons.mpr ⟨(in_5 (List.mem_of_getElem? (i := 15) rfl) rfl), List.forall_mem_cons.mpr ⟨(in_5 (List.mem_of_getElem? (i := 17) rfl) rfl), List.forall_mem_cons.mpr ⟨(in_5 (List.mem_of_getElem? (i := 19) rfl) rfl), List.forall_mem_cons.mpr ⟨(in_5 (List.mem_of_getElem? (i := 21) rfl) rfl), List.forall_mem_cons.mpr ⟨(in_5 (List.mem_of_getElem? (i := 23) rfl) rfl), List.forall_mem_cons.mpr ⟨(in_5 (List.mem_of_getElem? (i := 25) rfl) rfl), List.forall_mem_cons.mpr ⟨(in_5 (List.mem_of_getElem? (i := 27) rfl) rfl), List.forall_mem_cons.mpr ⟨(in_5 (List.mem_of_getElem? (i := 29) rfl) rfl), List.forall_mem_cons.mpr ⟨(in_5 (List.mem_of_getElem? (i := 31) rfl) rfl), List.forall_mem_cons.mpr ⟨(in_5 (List.mem_of_getElem? (i := 33) rfl) rfl), List.forall_mem_cons.mpr ⟨(in_5 (List.mem_of_getElem? (i := 35) rfl) rfl), List.forall_mem_cons.mpr ⟨(in_5 (List.mem_of_getElem? (i := 37) rfl) rfl), List.forall_mem_cons.mpr ⟨(in_5 (List.mem_of_getElem? (i := 39) rfl) rfl), List.forall_mem_cons.mpr ⟨(in_5 (List.mem_of_getElem? (i := 41) rfl) rfl), List.forall_mem_cons.mpr ⟨(in_5 (List.mem_of_getElem? (i := 43) rfl) rfl), List.forall_mem_cons.mpr ⟨(in_5 (List.mem_of_getElem? (i := 45) rfl) rfl), List.forall_mem_cons.mpr ⟨(in_5 (List.mem_of_getElem? (i := 47) rfl) rfl), List.forall_mem_cons.mpr ⟨(in_5 (List.mem_of_getElem? (i := 49) rfl) rfl), List.forall_mem_cons.mpr ⟨(in_5 (List.mem_of_getElem? (i := 51) rfl) rfl), List.forall_mem_cons.mpr ⟨(in_5 (List.mem_of_getElem? (i := 53) rfl) rfl), List.forall_mem_cons.mpr ⟨(in_5 (List.mem_of_getElem? (i := 55) rfl) rfl), List.forall_mem_cons.mpr ⟨(in_5 (List.mem_of_getElem? (i := 57) rfl) rfl), List.forall_mem_cons.mpr ⟨(in_5 (List.mem_of_getElem? (i := 59) rfl) rfl), List.forall_mem_cons.mpr ⟨(in_5 (List.mem_of_getElem? (i := 61) rfl) rfl), List.forall_mem_cons.mpr ⟨(in_5 (List.mem_of_getElem? (i := 63) rfl) rfl), List.forall_mem_cons.mpr ⟨(in_5 (List.mem_of_getElem? (i := 65) rfl) rfl), List.forall_mem_cons.mpr ⟨(in_5 (List.mem_of_getElem? (i := 67) rfl) rfl), List.forall_mem_cons.mpr ⟨(in_5 (List.mem_of_getElem? (i := 69) rfl) rfl), List.forall_mem_cons.mpr ⟨(in_5 (List.mem_of_getElem? (i := 71) rfl) rfl), List.forall_mem_cons.mpr ⟨(in_5 (List.mem_of_getElem? (i := 73) rfl) rfl), List.forall_mem_cons.mpr ⟨(in_5 (List.mem_of_getElem? (i := 75) rfl) rfl), List.forall_mem_cons.mpr ⟨(in_5 (List.mem_of_getElem? (i := 77) rfl) rfl), List.forall_mem_cons.mpr ⟨(in_5 (List.mem_of_getElem? (i := 79) rfl) rfl), List.forall_mem_cons.mpr ⟨(in_5 (List.mem_of_getElem? (i := 81) rfl) rfl), List.forall_mem_cons.mpr ⟨(in_5 (List.mem_of_getElem? (i := 83) rfl) rfl), List.forall_mem_cons.mpr ⟨(in_5 (List.mem_of_getElem? (i := 85) rfl) rfl), List.forall_mem_cons.mpr ⟨(in_5 (List.mem_of_getElem? (i := 87) rfl) rfl), List.forall_mem_cons.mpr ⟨(in_5 (List.mem_of_getElem? (i := 89) rfl) rfl), List.forall_mem_cons.mpr ⟨(in_5 (List.mem_of_getElem? (i := 91) rfl) rfl), List.forall_mem_cons.mpr ⟨(in_5 (List.mem_of_getElem? (i := 93) rfl) rfl), List.forall_mem_cons.mpr ⟨(in_5 (List.mem_of_getElem? (i := 95) rfl) rfl), List.forall_mem_cons.mpr ⟨(in_5 (List.mem_of_getElem? (i := 97) rfl) rfl), List.forall_mem_cons.mpr ⟨(in_5 (List.mem_of_getElem? (i := 99) rfl) rfl), List.forall_mem_cons.mpr ⟨(in_5 (List.mem_of_getElem? (i := 101) rfl) rfl), List.forall_mem_cons.mpr ⟨(in_5 (List.mem_of_getElem? (i := 103) rfl) rfl), List.forall_mem_cons.mpr ⟨(in_5 (List.mem_of_getElem? (i := 105) rfl) rfl), (fun _ h => absurd h List.not_mem_nil)⟩⟩⟩⟩⟩⟩⟩⟩⟩⟩⟩⟩⟩⟩⟩⟩⟩⟩⟩⟩⟩⟩⟩⟩⟩⟩⟩⟩⟩⟩⟩⟩⟩⟩⟩⟩⟩⟩⟩⟩⟩⟩⟩⟩⟩⟩
abbrev cls_ : List vw_C := [(R_X, F_X, 6), (R_L, F_L, 3), (R_N, F_N, 2), (R_U, F_U, 3), (R_R, F_R, 8), (R_H, F_H, 2), (R_S, F_S, 4), (R_B, F_B, 4), (R_M, F_M, 46)]
end
section
/-! MY BASE: one list of words for every method (the tables' words); a contract whose heap is a parameter; calls by it. -/
def wC (y : MethodName) (b : ByteArray) (n : Nat) (r : Option FieldType) : List Cond := .code y b n r :: gT
theorem tb_wC {y : MethodName} {b : ByteArray} {n : Nat} {r : Option FieldType} (h : Cond.code y b n r ∈ gT) : GoodIn gT (wC y b n r) := fun w hw => by
  rcases List.mem_cons.mp hw with e | h2
  · subst e; exact ⟨h, good_of_word (gT_good _ h)⟩
  · exact ⟨h2, good_of_word (gT_good _ h2)⟩
def yOk (y : MethodName) (n : Nat) : Prop := y.cls ≠ "java/lang/invoke/MethodHandle" ∧ y.cls ≠ "java/lang/invoke/VarHandle" ∧ (parseMethodDescriptor y.desc).map (fun d => d.parameters.length) = some n
/-- the nest mates' links -/
def nW : List Cond := [.methodLinkNest "RegistryLog" 154 ⟨"RegistryLog$Tree", "headOf", "(LRegistryLog$Ledger;II)J"⟩ "RegistryLog", .methodLinkNest "RegistryLog" 163 ⟨"RegistryLog$Tree", "proveInside", "(LRegistryLog$Ledger;IIILRegistryLog$Numbers;)V"⟩ "RegistryLog", .methodLinkNest "RegistryLog" 168 ⟨"RegistryLog$Tree", "proveGrowth", "(LRegistryLog$Ledger;IIIZLRegistryLog$Numbers;)V"⟩ "RegistryLog", .methodLinkNest "RegistryLog" 180 ⟨"RegistryLog$Tree", "headFromInside", "(IIJLRegistryLog$Numbers;)J"⟩ "RegistryLog", .methodLinkNest "RegistryLog" 187 ⟨"RegistryLog$Tree", "headsFromGrowth", "(IIZJLRegistryLog$Numbers;)LRegistryLog$TwoHeads;"⟩ "RegistryLog"]
theorem nW_form : ∀ w ∈ nW, ∃ a i x h, w = .methodLinkNest a i x h := by
  intro w hw
  simp only [nW, List.mem_cons, List.not_mem_nil, or_false] at hw
  rcases hw with h | h | h | h | h <;> exact ⟨_, _, _, _, h⟩
def nK (U : State) : Prop := ∀ w ∈ nW, va_Nw w U
theorem nK.same {u U : State} (hv : u.vm = U.vm) (h : nK u) : nK U := fun w hw => by
  obtain ⟨a, i, x, y, e⟩ := nW_form w hw
  have := h w hw
  subst e
  exact va_Nw.same rfl hv this
theorem nK.warm {s U : State} (hW : s.WarmedH U.vm) (h : nK s) : nK U := fun w hw => by
  obtain ⟨a, i, x, y, e⟩ := nW_form w hw
  have := h w hw
  subst e
  exact va_Nw.warmM hW this
/-- a call's words: an instance method, a static one, a constructor, a nest mate's static one -/
def kV (own : String) (i : Nat) (C : String) (y : MethodName) (b : ByteArray) (mL : Nat) (r : Option FieldType) (n : Nat) : Prop :=
  Cond.methodLink own i y ∈ gT ∧ Cond.instanceMethod y ∈ gT ∧ Cond.selects C y y ∈ gT ∧ Cond.initialized y.cls ∈ gT ∧ Cond.code y b mL r ∈ gT ∧ yOk y n
def kS (own : String) (i : Nat) (y : MethodName) (b : ByteArray) (mL : Nat) (r : Option FieldType) (n : Nat) : Prop :=
  Cond.methodLink own i y ∈ gT ∧ Cond.static y ∈ gT ∧ Cond.initialized y.cls ∈ gT ∧ Cond.code y b mL r ∈ gT ∧ yOk y n
def kI (own : String) (i : Nat) (y : MethodName) (b : ByteArray) (mL : Nat) (n : Nat) : Prop :=
  Cond.methodLink own i y ∈ gT ∧ Cond.instanceMethod y ∈ gT ∧ Cond.initialized y.cls ∈ gT ∧ Cond.code y b mL none ∈ gT ∧ y.name = "<init>" ∧ yOk y n
def kN (own : String) (i : Nat) (y : MethodName) (host : String) (b : ByteArray) (mL : Nat) (r : Option FieldType) (n : Nat) : Prop :=
  Cond.methodLinkNest own i y host ∈ nW ∧ Cond.static y ∈ gT ∧ Cond.initialized y.cls ∈ gT ∧ Cond.code y b mL r ∈ gT ∧ yOk y n
/-- what is fixed through a run: class numbers and slots; array classes; the heap's size at the start; the addresses of string constants -/
abbrev gG : Type := va_G × (Nat → ClassId) × Nat × (Nat → Nat)
/-- the array classes that are met: byte, long, Row, Ledger, int, boolean -/
abbrev ty_ (cA : Nat → ClassId) : List (ClassId × FieldType) := [(cA 0, .byte), (cA 1, .long), (cA 2, .object "RegistryLog$Row"), (cA 3, .object "RegistryLog$Ledger"), (cA 4, .int), (cA 5, .boolean)]
/-- the classes of the byte arrays of strings: cA 0, and cA 6, that of the constants' -/
def bK (g : gG) (U : State) : Prop := ∀ k : ClassId, k = g.2.1 0 ∨ k = g.2.1 6 → ∃ (kA : Class) (comp : ClassId), U.vm.classes[k]? = some kA ∧ kA.kind = .array comp .byte
theorem bK.moved {g : gG} {u U : State} (hvm : u.vm.Alike U.vm) (h : bK g u) : bK g U := fun k hk => by
  obtain ⟨kA, comp, h1, h2⟩ := h k hk
  obtain ⟨k', hk', he⟩ := hvm.2.2 _ _ h1
  exact ⟨k', comp, hk', by rw [he]; exact h2⟩
def rK (g : gG) (U : State) : Prop := vk_R "RegistryLog$Ledger" 11 "" (g.2.2.2 0) U ∧ vk_R "java/lang/StringLatin1" 151 "" (g.2.2.2 1) U ∧ vk_R "RegistryLog" 231 "no such name, person or version" (g.2.2.2 2) U ∧ vk_R "RegistryLog" 235 "the row may not come" (g.2.2.2 3) U ∧ vk_R "RegistryLog" 122 "no mark between two names, or no such person" (g.2.2.2 4) U
/-- what the tables say, at a state -/
def kK (g : gG) (U : State) : Prop := va_K g.1 cls_ (ty_ g.2.1) U ∧ nK U ∧ (va_AO "RegistryLog$Row" U ∧ va_AO "RegistryLog$Ledger" U) ∧ bK g U ∧ rK g U
theorem kK.same {g : gG} {u U : State} (hv : u.vm = U.vm) (ha : u.vm.Alike U.vm) (h : kK g u) : kK g U :=
  ⟨va_K.moved ha h.1, nK.same hv h.2.1, ⟨va_AO.moved ha h.2.2.1.1, va_AO.moved ha h.2.2.1.2⟩, bK.moved ha h.2.2.2.1, vk_R.same hv.symm h.2.2.2.2.1, vk_R.same hv.symm h.2.2.2.2.2.1, vk_R.same hv.symm h.2.2.2.2.2.2.1, vk_R.same hv.symm h.2.2.2.2.2.2.2.1, vk_R.same hv.symm h.2.2.2.2.2.2.2.2⟩
theorem kK.warm {g : gG} {u U : State} (hW : u.WarmedH U.vm) (h : kK g u) : kK g U :=
  ⟨va_K.moved hW.alike h.1, nK.warm hW h.2.1, ⟨va_AO.moved hW.alike h.2.2.1.1, va_AO.moved hW.alike h.2.2.1.2⟩, bK.moved hW.alike h.2.2.2.1, vk_R.warm hW h.2.2.2.2.1, vk_R.warm hW h.2.2.2.2.2.1, vk_R.warm hW h.2.2.2.2.2.2.1, vk_R.warm hW h.2.2.2.2.2.2.2.1, vk_R.warm hW h.2.2.2.2.2.2.2.2⟩
/-- the cells that are older than the law's start may not change -/
abbrev old_ (g : gG) : Nat → Prop := fun q => g.2.2.1 ≤ q
def zK (g : gG) (U : State) (H : Heap) : Prop := va_Z "java/lang/String" "COMPACT_STRINGS" "Z" (.int 1) (old_ g) U H
theorem zK.moved {g : gG} {u U : State} {H : Heap} (ha : u.vm.Alike U.vm) (h : zK g u H) : zK g U H := va_Z.moved ha h
theorem zK.kept {g : gG} {U : State} {H H1 : Heap} (h : zK g U H) (hq : ∀ a : Nat, a < H.size → ¬ old_ g a → H1[a]? = H[a]?) : zK g U H1 := va_Z.kept h hq
def rmk (f cs sl lo : Nat) : Room := { frames := f, cells := cs, slots := sl, locals := lo }
/-- a contract's start: the arguments, the heap, the tables -/
def pC (g : gG) (H : Heap) (As : List Value) : Array Value → State → Prop := fun v U => v = As.toArray ∧ U.heap = H ∧ kK g U ∧ zK g U H
theorem pC_blind {g : gG} {H : Heap} {As : List Value} : FrameBlind (pC g H As) := fun a U fr mk q => ⟨q.1, q.2.1, kK.same (u := U) (U := U.calling fr mk a) rfl (Vm.Alike.refl U.vm) q.2.2.1, zK.moved (u := U) (U := U.calling fr mk a) (Vm.Alike.refl U.vm) q.2.2.2⟩
/-- a contract's end where nothing changed -/
def qP (H : Heap) (P : Option Value → Prop) : Array Value → State → Outcome → State → Prop := fun _ _ o t => ∃ v, o = .returned v ∧ P v ∧ t.heap = H
/-- a contract's end: cells outside of N that were there are as they were -/
def hC (N : Nat → Prop) (H H' : Heap) : Prop := H.size ≤ H'.size ∧ ∀ q : Nat, q < H.size → ¬ N q → H'[q]? = H[q]?
def qW (H : Heap) (N : Nat → Prop) (P : Option Value → Heap → Prop) : Array Value → State → Outcome → State → Prop := fun _ _ o t => ∃ v, o = .returned v ∧ hC N H t.heap ∧ P v t.heap
def fW (H : Heap) (N : Nat → Prop) : Addr → Prop := fun q => N q ∨ H.size ≤ q
abbrev no_ : Nat → Prop := fun _ => False
/-- what a method's body stands on -/
def cF (g : gG) (p : Program) (s : State) (m : MethodId) (args : Array Value) (meth : Method) (c : Code) (cc : ByteArray) (nL : Nat) (own : String) (ret : Option FieldType) : Prop :=
  p.tables.exec = Jvm.exec ∧ c.code = cc ∧ c.maxLocals = nL ∧ s.vm.findClass own = some m.cls ∧ (∀ w ∈ gT, w.before args s = true) ∧ meth.sig.returnType = ret ∧ meth.locks = false ∧ kK g s
section B0
variable {p : Program} {l : Launch} {e : Env} {R : Room} {s : State} {m : MethodId} {args : Array Value} {below : List Frame} {meth : Method} {c : Code} {H : Heap} {locs : List Loc} {cells slots : Nat} {Q : State → Prop}
/-- a contract out of a walk of the body -/
theorem mB {g : gG} {y : MethodName} {cc : ByteArray} {maxL : Nat} {ret : Option FieldType} {rm : Room} {As : List Value} {Qc : Array Value → State → Outcome → State → Prop} {mc ms : Nat} {free : Addr → Prop}
    (hy : plainName y.cls = true) (hn : (lg_sl As).length ≤ maxL)
    (body : ∀ p e s m below meth c (ls : Array Slot), cF g p s m As.toArray meth c cc maxL y.cls ret → s.heap = H → zK g s H → meth.name = y.name → lv_has ls maxL (lv_args 0 As) → W p l e rm s m As.toArray below meth c H [] 0 0 (MQ below Qc As.toArray s mc ms free) (F0 m 0 ls [])) :
    Met l y (wC y cc maxL ret) rm (pC g H As) Qc mc ms free := by
  refine Met.ofW (cc := cc) (maxL := maxL) (ret := ret) hy rfl ?_
  intro p e s m args below meth c s₁ B hml hv
  obtain ⟨rfl, hH, hK, hZ⟩ := hv
  have hts := atoms_spec (ws := wC y cc maxL ret) B.pre
  have hl := lv_entry As (n := maxL) hn
  rw [lg_entry_eq, hH]
  exact body p e s m below meth c _ ⟨B.exec, B.bytes, hml, findClass_of_methodNamed B.named, fun w hw => hts w (List.mem_cons_of_mem _ hw), B.returns, B.notSynchronized, hK⟩ hH hZ (name_of_methodNamed B.named B.method).1 hl
variable {y : MethodName} {bytes cc : ByteArray} {maxL nL mc ms n index : Nat} {ret r0 : Option FieldType} {rm : Room} {Qc : Array Value → State → Outcome → State → Prop} {free : Addr → Prop} {own C : String} {b : Addr} {As rest : List Value} {g : gG} {pc : Nat} {ls : Array Slot} {st0 : List Value}
/-- a call, by the contract and the call's words -/
theorem rV (C0 : cF g p s m args meth c cc nL own r0) (hM : Met l y (wC y bytes maxL ret) rm (pC g H (.ref b :: As)) Qc mc ms free) (hZ : zK g s H) (k : kV own index C y bytes maxL ret n)
    (hrc : rm.cells = mc) (hrs : rm.slots = ms) (hR : rm.frames + 1 ≤ R.frames ∧ 8 + (maxL + 11) + rm.locals ≤ R.locals)
    (hb : ∃ cellB : Cell, H[b]? = some cellB ∧ cellB.vm.isStatics = false ∧ s.vm.findClass C = some cellB.cls)
    (hn : As.length = n) (hsize : ls.size = nL) (hst : st0 = As.reverse ++ .ref b :: rest) (hW : (rest.map fun v => v.category).sum ≤ 8) (hdg : decode cc pc = .ok (.invokevirtual index, 3)) (hf : cells + mc ≤ R.cells ∧ slots + ms ≤ R.slots) :
    va_Run p l e R s m args below meth c H locs cells slots mc ms (F0 m pc ls st0) rest (Qc (Value.ref b :: As).toArray) free := by
  obtain ⟨hx, hbb, hml, hown, hts, hr, hlk, hK⟩ := C0
  obtain ⟨k1, k2, k3, k4, k5, k6⟩ := k
  exact va_runV ⟨hx, hbb, hml, hown, hts⟩ hM ⟨callB_of n hts (tb_wC k5) rfl hrc hrs (hts _ k4) (hts _ k1) k6 hR, hts _ k2, hts _ k3⟩ ⟨pC_blind, hb, fun U hU hW => ⟨rfl, hU, kK.warm hW hK, zK.moved hW.alike hZ⟩⟩ rfl hn hsize hst (lv_room hW) hdg hf
theorem rS (C0 : cF g p s m args meth c cc nL own r0) (hM : Met l y (wC y bytes maxL ret) rm (pC g H As) Qc mc ms free) (hZ : zK g s H) (k : kS own index y bytes maxL ret n)
    (hrc : rm.cells = mc) (hrs : rm.slots = ms) (hR : rm.frames + 1 ≤ R.frames ∧ 8 + (maxL + 11) + rm.locals ≤ R.locals)
    (hn : As.length = n) (hsize : ls.size = nL) (hst : st0 = As.reverse ++ rest) (hW : (rest.map fun v => v.category).sum ≤ 8) (hdg : decode cc pc = .ok (.invokestatic index, 3)) (hf : cells + mc ≤ R.cells ∧ slots + ms ≤ R.slots) :
    va_Run p l e R s m args below meth c H locs cells slots mc ms (F0 m pc ls st0) rest (Qc As.toArray) free := by
  obtain ⟨hx, hbb, hml, hown, hts, hr, hlk, hK⟩ := C0
  obtain ⟨k1, k2, k4, k5, k6⟩ := k
  exact va_runS ⟨hx, hbb, hml, hown, hts⟩ hM ⟨callB_of n hts (tb_wC k5) rfl hrc hrs (hts _ k4) (hts _ k1) k6 hR, hts _ k2⟩ ⟨pC_blind, fun U hU hW => ⟨rfl, hU, kK.warm hW hK, zK.moved hW.alike hZ⟩⟩ rfl hn hsize hst (lv_room hW) hdg hf
theorem rI (C0 : cF g p s m args meth c cc nL own r0) (hM : Met l y (wC y bytes maxL none) rm (pC g H (.ref b :: As)) Qc mc ms free) (hZ : zK g s H) (k : kI own index y bytes maxL n)
    (hrc : rm.cells = mc) (hrs : rm.slots = ms) (hR : rm.frames + 1 ≤ R.frames ∧ 8 + (maxL + 11) + rm.locals ≤ R.locals)
    (hn : As.length = n) (hsize : ls.size = nL) (hst : st0 = As.reverse ++ .ref b :: rest) (hW : (rest.map fun v => v.category).sum ≤ 8) (hdg : decode cc pc = .ok (.invokespecial index, 3)) (hf : cells + mc ≤ R.cells ∧ slots + ms ≤ R.slots) :
    va_Run p l e R s m args below meth c H locs cells slots mc ms (F0 m pc ls st0) rest (Qc (Value.ref b :: As).toArray) free := by
  obtain ⟨hx, hbb, hml, hown, hts, hr, hlk, hK⟩ := C0
  obtain ⟨k1, k2, k4, k5, k7, k6⟩ := k
  exact va_runI ⟨hx, hbb, hml, hown, hts⟩ hM ⟨callB_of n hts (tb_wC k5) rfl hrc hrs (hts _ k4) (hts _ k1) k6 hR, k7, hts _ k2⟩ ⟨pC_blind, fun U hU hW => ⟨rfl, hU, kK.warm hW hK, zK.moved hW.alike hZ⟩⟩ rfl hn hsize hst (lv_room hW) hdg hf
theorem rN {host : String} (C0 : cF g p s m args meth c cc nL own r0) (hM : Met l y (wC y bytes maxL ret) rm (pC g H As) Qc mc ms free) (hZ : zK g s H) (k : kN own index y host bytes maxL ret n)
    (hrc : rm.cells = mc) (hrs : rm.slots = ms) (hR : rm.frames + 1 ≤ R.frames ∧ 8 + (maxL + 11) + rm.locals ≤ R.locals)
    (hn : As.length = n) (hsize : ls.size = nL) (hst : st0 = As.reverse ++ rest) (hW : (rest.map fun v => v.category).sum ≤ 8) (hdg : decode cc pc = .ok (.invokestatic index, 3)) (hf : cells + mc ≤ R.cells ∧ slots + ms ≤ R.slots) :
    va_Run p l e R s m args below meth c H locs cells slots mc ms (F0 m pc ls st0) rest (Qc As.toArray) free := by
  obtain ⟨hx, hbb, hml, hown, hts, hr, hlk, hK⟩ := C0
  obtain ⟨k1, k2, k4, k5, k6⟩ := k
  exact va_runSN ⟨hx, hbb, hml, hown, hts⟩ hM ⟨va_cnB n hts (tb_wC k5) rfl hrc hrs (hK.2.1 _ k1) (hts _ k4) k6 hR, hts _ k2, trivial⟩ ⟨pC_blind, fun U hU hW => ⟨rfl, hU, kK.warm hW hK, zK.moved hW.alike hZ⟩⟩ rfl hn hsize hst (lv_room hW) hdg hf
/-- behind a call that changed nothing -/
theorem aP {a : Array Value} {P : Option Value → Prop} (hr : va_Run p l e R s m args below meth c H locs cells slots 0 0 (F0 m pc ls st0) rest (qP H P a) no_)
    (kk : ∀ v, P v → W p l e R s m args below meth c H locs cells slots Q (F0 m (pc + 3) ls (v.toList ++ rest))) : W p l e R s m args below meth c H locs cells slots Q (F0 m pc ls st0) := by
  intro T hT X
  obtain ⟨v, st₀, t, T', L, h0, X', hL, e1, e2, ⟨v', hv, hp, hh⟩, st⟩ := hr T hT X
  cases hv
  obtain ⟨t2, a1, b1⟩ := kk v hp T' (by rw [e1]; exact hh) (Stand.forget X' (fun q h => (hL q h).elim))
  exact ⟨t2, st t2 a1, b1⟩
/-- behind a call that changed cells of N alone, and made some -/
theorem aW {a : Array Value} {P : Option Value → Heap → Prop} {N : Nat → Prop} (hr : va_Run p l e R s m args below meth c H locs cells slots mc ms (F0 m pc ls st0) rest (qW H N P a) (fW H N))
    (kk : ∀ (v : Option Value) (H1 : Heap) (L : List Loc), hC N H H1 → P v H1 → (∀ q ∈ L, fW H N q.base) → W p l e R s m args below meth c H1 (locs ++ L) (cells + mc) (slots + ms) Q (F0 m (pc + 3) ls (v.toList ++ rest))) : W p l e R s m args below meth c H locs cells slots Q (F0 m pc ls st0) := by
  intro T hT X
  obtain ⟨v, st₀, t, T', L, h0, X', hL, e1, e2, ⟨v', hv, hh, hp⟩, st⟩ := hr T hT X
  cases hv
  obtain ⟨t2, a1, b1⟩ := kk v T'.heap L (by rw [e1]; exact hh) (by rw [e1]; exact hp) hL T' rfl X'
  exact ⟨t2, st t2 a1, b1⟩
end B0
end
