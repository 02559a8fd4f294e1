theorem wb_ex : ∃ x : List Cond, x = lw_tbl.filter goodWord := ⟨_, rfl⟩
noncomputable def wb : List Cond := Classical.choose wb_ex
theorem wb_eq : wb = lw_tbl.filter goodWord := Classical.choose_spec wb_ex
theorem wb_in {w : Cond} (h : w ∈ lw_tbl) (hg : goodWord w = true) : w ∈ wb := by rw [wb_eq]; exact List.mem_filter.mpr ⟨h, hg⟩
theorem wb_tbl : ∀ w ∈ wb, w ∈ lw_tbl := fun _ h => by rw [wb_eq] at h; exact (List.mem_filter.mp h).1
theorem wb_t1 {w : Cond} (h : w ∈ tables_1_1) (hg : goodWord w = true) : w ∈ wb := wb_in (List.mem_append_right _ (List.mem_append_left _ h)) hg
theorem wb_t2 {w : Cond} (h : w ∈ tables_1_2) (hg : goodWord w = true) : w ∈ wb := wb_in (List.mem_append_right _ (List.mem_append_right _ (List.mem_append_left _ h))) hg
theorem wb_t3 {w : Cond} (h : w ∈ tables_1_3) (hg : goodWord w = true) : w ∈ wb := wb_in (List.mem_append_right _ (List.mem_append_right _ (List.mem_append_right _ h))) hg
theorem wb_s {w : Cond} (h : w ∈ k2_sels lw_privs) (hg : goodWord w = true) : w ∈ wb := wb_in (List.mem_append_left _ h) hg
theorem tb_1 {w : Cond} (h : w ∈ tables_1_1) : w ∈ lw_tbl := List.mem_append_right _ (List.mem_append_left _ h)
theorem tb_2 {w : Cond} (h : w ∈ tables_1_2) : w ∈ lw_tbl := List.mem_append_right _ (List.mem_append_right _ (List.mem_append_left _ h))
theorem wb_good : ∀ w ∈ wb, (w.onTables && w.keeps) = true ∨ ∃ ty, w = .arrayClass ty := fun w h => by rw [wb_eq] at h; exact good_of_word (List.mem_filter.mp h).2
theorem gd_in {ws : List Cond} (h : ∀ w ∈ ws, w ∈ wb) : GoodIn wb ws := fun w hw => ⟨h w hw, wb_good w (h w hw)⟩
theorem gd_c {y : MethodName} {c : ByteArray} {n : Nat} {r : Option FieldType} (h : Cond.code y c n r ∈ wb) : GoodIn wb (Cond.code y c n r :: wb) := gd_in (fun w hw => by
  rcases List.mem_cons.mp hw with e | h2
  · rw [e]; exact h
  · exact h2)
theorem gd_app {a b : List Cond} (ha : ∀ w ∈ a, w ∈ wb) (hb : GoodIn wb b) : GoodIn wb (a ++ b) := fun w hw => by
  rcases List.mem_append.mp hw with h | h
  · exact ⟨ha w h, wb_good w (ha w h)⟩
  · exact hb w h
theorem gd_4 {p q r s : Cond} (h1 : p ∈ wb) (h2 : q ∈ wb) (h3 : r ∈ wb) (h4 : s ∈ wb) : ∀ w ∈ [p, q, r, s], w ∈ wb := by
  intro w hw
  simp only [List.mem_cons, List.mem_nil_iff, or_false] at hw
  rcases hw with e | e | e | e <;> (rw [e]; assumption)
theorem gd_3 {p q r : Cond} (h1 : p ∈ wb) (h2 : q ∈ wb) (h3 : r ∈ wb) : ∀ w ∈ [p, q, r], w ∈ wb := by
  intro w hw
  simp only [List.mem_cons, List.mem_nil_iff, or_false] at hw
  rcases hw with e | e | e <;> (rw [e]; assumption)
theorem gd_v {own C : String} {i : Nat} {y : MethodName} {c : ByteArray} {n : Nat} {r : Option FieldType} (h1 : Cond.methodLink own i y ∈ wb) (h2 : Cond.instanceMethod y ∈ wb) (h3 : Cond.selects C y y ∈ wb) (h4 : Cond.initialized C ∈ wb) (h5 : Cond.code y c n r ∈ wb) : GoodIn wb (wsV own i C y (Cond.code y c n r :: wb)) := gd_app (gd_4 h1 h2 h3 h4) (gd_c h5)
theorem gd_s {own : String} {i : Nat} {y : MethodName} {c : ByteArray} {n : Nat} {r : Option FieldType} (h1 : Cond.methodLink own i y ∈ wb) (h2 : Cond.static y ∈ wb) (h4 : Cond.initialized y.cls ∈ wb) (h5 : Cond.code y c n r ∈ wb) : GoodIn wb (va_wsS own i y (Cond.code y c n r :: wb)) := gd_app (gd_3 h1 h2 h4) (gd_c h5)
abbrev RB : String := "FinalityTree$Block"
def TB : u_T := fun k => match k with
  | 0 => ("FinalityTree$Block", "parent", "I", false)
  | 1 => ("FinalityTree$Block", "slot", "I", false)
  | 2 => ("FinalityTree$Block", "proposer", "I", false)
  | 3 => ("FinalityTree$Block", "chain", "J", false)
  | 4 => ("FinalityTree$Block", "items", "LFinalityTree$Items;", true)
  | _ => ("FinalityTree$Block", "state", "LFinalityTree$State;", true)
def tyB : Nat → FieldType := fun k => match k with
  | 0 => .int
  | 1 => .int
  | 2 => .int
  | 3 => .long
  | 4 => .object "FinalityTree$Items"
  | _ => .object "FinalityTree$State"
theorem nmB : ∀ a, a < 6 → ∀ b, b < 6 → a ≠ b → (TB a).2.1 ≠ (TB b).2.1 := by decide +kernel
theorem tyB_ok : ∀ k, k < 6 → parseFieldDescriptor (TB k).2.2.1 = some (tyB k) := by decide +kernel
abbrev RI : String := "FinalityTree$Items"
def TI : u_T := fun k => match k with
  | 0 => ("FinalityTree$Items", "first", "[I", true)
  | 1 => ("FinalityTree$Items", "second", "[I", true)
  | _ => ("FinalityTree$Items", "count", "I", false)
def tyI : Nat → FieldType := fun k => match k with
  | 0 => .array .int
  | 1 => .array .int
  | _ => .int
theorem nmI : ∀ a, a < 3 → ∀ b, b < 3 → a ≠ b → (TI a).2.1 ≠ (TI b).2.1 := by decide +kernel
theorem tyI_ok : ∀ k, k < 3 → parseFieldDescriptor (TI k).2.2.1 = some (tyI k) := by decide +kernel
abbrev RN : String := "FinalityTree$Node"
def TN : u_T := fun k => match k with
  | 0 => ("FinalityTree$Node", "knownBlocks", "J", false)
  | 1 => ("FinalityTree$Node", "heardVotes", "[Z", true)
  | 2 => ("FinalityTree$Node", "latest", "[I", true)
  | 3 => ("FinalityTree$Node", "justified", "I", false)
  | _ => ("FinalityTree$Node", "finalized", "I", false)
def tyN : Nat → FieldType := fun k => match k with
  | 0 => .long
  | 1 => .array .boolean
  | 2 => .array .int
  | 3 => .int
  | _ => .int
theorem nmN : ∀ a, a < 5 → ∀ b, b < 5 → a ≠ b → (TN a).2.1 ≠ (TN b).2.1 := by decide +kernel
theorem tyN_ok : ∀ k, k < 5 → parseFieldDescriptor (TN k).2.2.1 = some (tyN k) := by decide +kernel
abbrev RS : String := "FinalityTree$State"
def TS : u_T := fun k => match k with
  | 0 => ("FinalityTree$State", "balances", "[I", true)
  | 1 => ("FinalityTree$State", "punishedSet", "I", false)
  | 2 => ("FinalityTree$State", "justified", "I", false)
  | 3 => ("FinalityTree$State", "finalized", "I", false)
  | 4 => ("FinalityTree$State", "epoch", "I", false)
  | 5 => ("FinalityTree$State", "countedNow", "I", false)
  | _ => ("FinalityTree$State", "countedBefore", "I", false)
def tyS : Nat → FieldType := fun k => match k with
  | 0 => .array .int
  | 1 => .int
  | 2 => .int
  | 3 => .int
  | 4 => .int
  | 5 => .int
  | _ => .int
theorem nmS : ∀ a, a < 7 → ∀ b, b < 7 → a ≠ b → (TS a).2.1 ≠ (TS b).2.1 := by decide +kernel
theorem tyS_ok : ∀ k, k < 7 → parseFieldDescriptor (TS k).2.2.1 = some (tyS k) := by decide +kernel
abbrev RV : String := "FinalityTree$Vote"
def TV : u_T := fun k => match k with
  | 0 => ("FinalityTree$Vote", "validator", "I", false)
  | 1 => ("FinalityTree$Vote", "slot", "I", false)
  | 2 => ("FinalityTree$Vote", "head", "I", false)
  | 3 => ("FinalityTree$Vote", "source", "I", false)
  | _ => ("FinalityTree$Vote", "target", "I", false)
def tyV : Nat → FieldType := fun k => match k with
  | 0 => .int
  | 1 => .int
  | 2 => .int
  | 3 => .int
  | _ => .int
theorem nmV : ∀ a, a < 5 → ∀ b, b < 5 → a ≠ b → (TV a).2.1 ≠ (TV b).2.1 := by decide +kernel
theorem tyV_ok : ∀ k, k < 5 → parseFieldDescriptor (TV k).2.2.1 = some (tyV k) := by decide +kernel
abbrev RF : String := "FinalityTree"
def TF : u_T := fun k => match k with
  | 0 => ("FinalityTree", "validators", "I", true)
  | 1 => ("FinalityTree", "length", "I", true)
  | 2 => ("FinalityTree", "weightRow", "[I", true)
  | 3 => ("FinalityTree", "total", "I", true)
  | 4 => ("FinalityTree", "blocks", "[LFinalityTree$Block;", true)
  | 5 => ("FinalityTree", "blockCount", "I", false)
  | 6 => ("FinalityTree", "votes", "[LFinalityTree$Vote;", true)
  | 7 => ("FinalityTree", "voteCount", "I", false)
  | 8 => ("FinalityTree", "nodes", "[LFinalityTree$Node;", true)
  | 9 => ("FinalityTree", "pending", "LFinalityTree$Items;", true)
  | _ => ("FinalityTree", "draft", "LFinalityTree$State;", true)
def tyF : Nat → FieldType := fun k => match k with
  | 0 => .int
  | 1 => .int
  | 2 => .array .int
  | 3 => .int
  | 4 => .array (.object "FinalityTree$Block")
  | 5 => .int
  | 6 => .array (.object "FinalityTree$Vote")
  | 7 => .int
  | 8 => .array (.object "FinalityTree$Node")
  | 9 => .object "FinalityTree$Items"
  | _ => .object "FinalityTree$State"
theorem nmF : ∀ a, a < 11 → ∀ b, b < 11 → a ≠ b → (TF a).2.1 ≠ (TF b).2.1 := by decide +kernel
theorem tyF_ok : ∀ k, k < 11 → parseFieldDescriptor (TF k).2.2.1 = some (tyF k) := by decide +kernel
abbrev RM : String := "FinalityTreeModel"
def TM : u_T := fun k => match k with
  | 0 => ("FinalityTreeModel", "validators", "I", true)
  | 1 => ("FinalityTreeModel", "length", "I", true)
  | 2 => ("FinalityTreeModel", "weights", "[I", true)
  | 3 => ("FinalityTreeModel", "total", "I", false)
  | 4 => ("FinalityTreeModel", "blocks", "I", false)
  | 5 => ("FinalityTreeModel", "parent", "[I", true)
  | 6 => ("FinalityTreeModel", "slot", "[I", true)
  | 7 => ("FinalityTreeModel", "itemCount", "[I", true)
  | 8 => ("FinalityTreeModel", "items", "[I", true)
  | 9 => ("FinalityTreeModel", "nextCount", "I", false)
  | 10 => ("FinalityTreeModel", "nextItems", "[I", true)
  | 11 => ("FinalityTreeModel", "votes", "I", false)
  | 12 => ("FinalityTreeModel", "voter", "[I", true)
  | 13 => ("FinalityTreeModel", "voteSlot", "[I", true)
  | 14 => ("FinalityTreeModel", "voteHead", "[I", true)
  | 15 => ("FinalityTreeModel", "sourceEpoch", "[I", true)
  | 16 => ("FinalityTreeModel", "sourceBlock", "[I", true)
  | 17 => ("FinalityTreeModel", "targetEpoch", "[I", true)
  | 18 => ("FinalityTreeModel", "targetBlock", "[I", true)
  | 19 => ("FinalityTreeModel", "known", "[Z", true)
  | 20 => ("FinalityTreeModel", "heard", "[Z", true)
  | 21 => ("FinalityTreeModel", "nodeEpoch", "[I", true)
  | 22 => ("FinalityTreeModel", "nodeBlock", "[I", true)
  | 23 => ("FinalityTreeModel", "epoch", "I", false)
  | 24 => ("FinalityTreeModel", "balances", "[I", true)
  | 25 => ("FinalityTreeModel", "struck", "[Z", true)
  | 26 => ("FinalityTreeModel", "now", "[Z", true)
  | 27 => ("FinalityTreeModel", "before", "[Z", true)
  | 28 => ("FinalityTreeModel", "justEpoch", "I", false)
  | 29 => ("FinalityTreeModel", "justBlock", "I", false)
  | 30 => ("FinalityTreeModel", "finalEpoch", "I", false)
  | 31 => ("FinalityTreeModel", "finalBlock", "I", false)
  | _ => ("FinalityTreeModel", "chain", "[I", true)
def tyM : Nat → FieldType := fun k => match k with
  | 0 => .int
  | 1 => .int
  | 2 => .array .int
  | 3 => .int
  | 4 => .int
  | 5 => .array .int
  | 6 => .array .int
  | 7 => .array .int
  | 8 => .array .int
  | 9 => .int
  | 10 => .array .int
  | 11 => .int
  | 12 => .array .int
  | 13 => .array .int
  | 14 => .array .int
  | 15 => .array .int
  | 16 => .array .int
  | 17 => .array .int
  | 18 => .array .int
  | 19 => .array .boolean
  | 20 => .array .boolean
  | 21 => .array .int
  | 22 => .array .int
  | 23 => .int
  | 24 => .array .int
  | 25 => .array .boolean
  | 26 => .array .boolean
  | 27 => .array .boolean
  | 28 => .int
  | 29 => .int
  | 30 => .int
  | 31 => .int
  | _ => .array .int
theorem nmM : ∀ a, a < 33 → ∀ b, b < 33 → a ≠ b → (TM a).2.1 ≠ (TM b).2.1 := by decide +kernel
theorem tyM_ok : ∀ k, k < 33 → parseFieldDescriptor (TM k).2.2.1 = some (tyM k) := by decide +kernel
abbrev RL : String := "FinalityTreeLaw"
abbrev vwCl : List vw_C := [(RB, TB, 6), (RI, TI, 3), (RN, TN, 5), (RS, TS, 7), (RV, TV, 5), (RF, TF, 11), (RM, TM, 33)]
set_option maxRecDepth 20000 in
theorem k1_0 : Cond.initialized "FinalityTreeLaw" ∈ wb := wb_t1 (List.mem_of_getElem? (i := 0) rfl) rfl
set_option maxRecDepth 20000 in
theorem k1_1 : Cond.initialized "FinalityTree" ∈ wb := wb_t1 (List.mem_of_getElem? (i := 1) rfl) rfl
set_option maxRecDepth 20000 in
theorem k1_2 : Cond.initialized "java/lang/Math" ∈ wb := wb_t1 (List.mem_of_getElem? (i := 2) rfl) rfl
set_option maxRecDepth 20000 in
theorem k1_3 : Cond.initialized "FinalityTree$Block" ∈ wb := wb_t1 (List.mem_of_getElem? (i := 3) rfl) rfl
set_option maxRecDepth 20000 in
theorem k1_4 : Cond.initialized "FinalityTree$Items" ∈ wb := wb_t1 (List.mem_of_getElem? (i := 4) rfl) rfl
set_option maxRecDepth 20000 in
theorem k1_5 : Cond.initialized "FinalityTree$State" ∈ wb := wb_t1 (List.mem_of_getElem? (i := 5) rfl) rfl
set_option maxRecDepth 20000 in
theorem k1_6 : Cond.initialized "FinalityTree$Vote" ∈ wb := wb_t1 (List.mem_of_getElem? (i := 6) rfl) rfl
set_option maxRecDepth 20000 in
theorem k1_7 : Cond.initialized "FinalityTree$Node" ∈ wb := wb_t1 (List.mem_of_getElem? (i := 7) rfl) rfl
set_option maxRecDepth 20000 in
theorem k1_8 : Cond.initialized "FinalityTreeModel" ∈ wb := wb_t1 (List.mem_of_getElem? (i := 8) rfl) rfl
set_option maxRecDepth 20000 in
theorem k1_9 : Cond.initialized "java/lang/System" ∈ wb := wb_t1 (List.mem_of_getElem? (i := 9) rfl) rfl
set_option maxRecDepth 20000 in
theorem k1_10 : Cond.classLink "FinalityTreeLaw" 7 "FinalityTree" ∈ wb := wb_t1 (List.mem_of_getElem? (i := 10) rfl) rfl
set_option maxRecDepth 20000 in
theorem k1_11 : Cond.instantiable "FinalityTree" 11 ∈ wb := wb_t1 (List.mem_of_getElem? (i := 11) rfl) rfl
set_option maxRecDepth 20000 in
theorem k1_12 : Cond.methodLink "FinalityTreeLaw" 15 ⟨"FinalityTree", "<init>", "(III)V"⟩ ∈ wb := wb_t1 (List.mem_of_getElem? (i := 12) rfl) rfl
set_option maxRecDepth 20000 in
theorem k1_13 : Cond.instanceMethod ⟨"FinalityTree", "<init>", "(III)V"⟩ ∈ wb := wb_t1 (List.mem_of_getElem? (i := 13) rfl) rfl
set_option maxRecDepth 20000 in
theorem k1_14 : Cond.code ⟨"FinalityTree", "<init>", "(III)V"⟩ prog_1_method_1_code 6 none ∈ wb := wb_t1 (List.mem_of_getElem? (i := 14) rfl) rfl
set_option maxRecDepth 20000 in
theorem k1_15 : Cond.methodLink "FinalityTree" 3 ⟨"java/lang/Object", "<init>", "()V"⟩ ∈ wb := wb_t1 (List.mem_of_getElem? (i := 15) rfl) rfl
set_option maxRecDepth 20000 in
theorem k1_16 : Cond.instanceMethod ⟨"java/lang/Object", "<init>", "()V"⟩ ∈ wb := wb_t1 (List.mem_of_getElem? (i := 16) rfl) rfl
set_option maxRecDepth 20000 in
theorem k1_17 : Cond.code ⟨"java/lang/Object", "<init>", "()V"⟩ object_method_1_code 1 none ∈ wb := wb_t1 (List.mem_of_getElem? (i := 17) rfl) rfl
set_option maxRecDepth 20000 in
theorem k1_18 : Cond.methodLink "FinalityTree" 9 ⟨"java/lang/Math", "min", "(II)I"⟩ ∈ wb := wb_t1 (List.mem_of_getElem? (i := 18) rfl) rfl
set_option maxRecDepth 20000 in
theorem k1_19 : Cond.static ⟨"java/lang/Math", "min", "(II)I"⟩ ∈ wb := wb_t1 (List.mem_of_getElem? (i := 19) rfl) rfl
set_option maxRecDepth 20000 in
theorem k1_20 : Cond.code ⟨"java/lang/Math", "min", "(II)I"⟩ prog_9_method_69_code 2 (some .int) ∈ wb := wb_t1 (List.mem_of_getElem? (i := 20) rfl) rfl
set_option maxRecDepth 20000 in
theorem k1_21 : Cond.methodLink "FinalityTree" 15 ⟨"java/lang/Math", "max", "(II)I"⟩ ∈ wb := wb_t1 (List.mem_of_getElem? (i := 21) rfl) rfl
set_option maxRecDepth 20000 in
theorem k1_22 : Cond.static ⟨"java/lang/Math", "max", "(II)I"⟩ ∈ wb := wb_t1 (List.mem_of_getElem? (i := 22) rfl) rfl
set_option maxRecDepth 20000 in
theorem k1_23 : Cond.code ⟨"java/lang/Math", "max", "(II)I"⟩ prog_9_method_65_code 2 (some .int) ∈ wb := wb_t1 (List.mem_of_getElem? (i := 23) rfl) rfl
set_option maxRecDepth 20000 in
theorem k1_24 : Cond.classLink "FinalityTree" 32 "FinalityTree$Block" ∈ wb := wb_t1 (List.mem_of_getElem? (i := 24) rfl) rfl
set_option maxRecDepth 20000 in
theorem k1_26 : Cond.instantiable "FinalityTree$Block" 6 ∈ wb := wb_t1 (List.mem_of_getElem? (i := 26) rfl) rfl
set_option maxRecDepth 20000 in
theorem k1_28 : Cond.instanceMethod ⟨"FinalityTree$Block", "<init>", "()V"⟩ ∈ wb := wb_t1 (List.mem_of_getElem? (i := 28) rfl) rfl
set_option maxRecDepth 20000 in
theorem k1_29 : Cond.code ⟨"FinalityTree$Block", "<init>", "()V"⟩ prog_2_method_1_code 1 none ∈ wb := wb_t1 (List.mem_of_getElem? (i := 29) rfl) rfl
set_option maxRecDepth 20000 in
theorem k1_30 : Cond.methodLink "FinalityTree$Block" 3 ⟨"java/lang/Object", "<init>", "()V"⟩ ∈ wb := wb_t1 (List.mem_of_getElem? (i := 30) rfl) rfl
set_option maxRecDepth 20000 in
theorem k1_31 : Cond.classLink "FinalityTree$Block" 19 "FinalityTree$Items" ∈ wb := wb_t1 (List.mem_of_getElem? (i := 31) rfl) rfl
set_option maxRecDepth 20000 in
theorem k1_32 : Cond.instantiable "FinalityTree$Items" 3 ∈ wb := wb_t1 (List.mem_of_getElem? (i := 32) rfl) rfl
set_option maxRecDepth 20000 in
theorem k1_34 : Cond.instanceMethod ⟨"FinalityTree$Items", "<init>", "()V"⟩ ∈ wb := wb_t1 (List.mem_of_getElem? (i := 34) rfl) rfl
set_option maxRecDepth 20000 in
theorem k1_35 : Cond.code ⟨"FinalityTree$Items", "<init>", "()V"⟩ prog_3_method_1_code 1 none ∈ wb := wb_t1 (List.mem_of_getElem? (i := 35) rfl) rfl
set_option maxRecDepth 20000 in
theorem k1_36 : Cond.methodLink "FinalityTree$Items" 3 ⟨"java/lang/Object", "<init>", "()V"⟩ ∈ wb := wb_t1 (List.mem_of_getElem? (i := 36) rfl) rfl
set_option maxRecDepth 20000 in
theorem k1_37 : Cond.fieldLink "FinalityTree$Items" 9 "FinalityTree$Items" "first" "[I" ∈ wb := wb_t1 (List.mem_of_getElem? (i := 37) rfl) rfl
set_option maxRecDepth 20000 in
theorem k1_38 : Cond.fieldLink "FinalityTree" 220 "FinalityTree$Items" "first" "[I" ∈ wb := wb_t1 (List.mem_of_getElem? (i := 38) rfl) rfl
set_option maxRecDepth 20000 in
theorem k1_39 : Cond.fieldLink "FinalityTree$Items" 15 "FinalityTree$Items" "second" "[I" ∈ wb := wb_t1 (List.mem_of_getElem? (i := 39) rfl) rfl
set_option maxRecDepth 20000 in
theorem k1_40 : Cond.fieldLink "FinalityTree" 223 "FinalityTree$Items" "second" "[I" ∈ wb := wb_t1 (List.mem_of_getElem? (i := 40) rfl) rfl
set_option maxRecDepth 20000 in
theorem k1_41 : Cond.fieldLink "FinalityTree$Items" 18 "FinalityTree$Items" "count" "I" ∈ wb := wb_t1 (List.mem_of_getElem? (i := 41) rfl) rfl
set_option maxRecDepth 20000 in
theorem k1_42 : Cond.fieldLink "FinalityTree" 123 "FinalityTree$Items" "count" "I" ∈ wb := wb_t1 (List.mem_of_getElem? (i := 42) rfl) rfl
set_option maxRecDepth 20000 in
theorem k1_43 : Cond.laysFinal "FinalityTree$Items" "FinalityTree$Items" "first" "[I" ∈ wb := wb_t1 (List.mem_of_getElem? (i := 43) rfl) rfl
set_option maxRecDepth 20000 in
theorem k1_45 : Cond.laysFinal "FinalityTree$Items" "FinalityTree$Items" "second" "[I" ∈ wb := wb_t1 (List.mem_of_getElem? (i := 45) rfl) rfl
set_option maxRecDepth 20000 in
theorem k1_47 : Cond.lays "FinalityTree$Items" "FinalityTree$Items" "count" "I" ∈ wb := wb_t1 (List.mem_of_getElem? (i := 47) rfl) rfl
set_option maxRecDepth 20000 in
theorem k1_50 : Cond.arrayClass .int ∈ wb := wb_t1 (List.mem_of_getElem? (i := 50) rfl) rfl
set_option maxRecDepth 20000 in
theorem k1_51 : Cond.classLink "FinalityTree$Block" 26 "FinalityTree$State" ∈ wb := wb_t1 (List.mem_of_getElem? (i := 51) rfl) rfl
set_option maxRecDepth 20000 in
theorem k1_52 : Cond.instantiable "FinalityTree$State" 7 ∈ wb := wb_t1 (List.mem_of_getElem? (i := 52) rfl) rfl
set_option maxRecDepth 20000 in
theorem k1_53 : Cond.methodLink "FinalityTree$Block" 28 ⟨"FinalityTree$State", "<init>", "()V"⟩ ∈ wb := wb_t1 (List.mem_of_getElem? (i := 53) rfl) rfl
set_option maxRecDepth 20000 in
theorem k1_54 : Cond.instanceMethod ⟨"FinalityTree$State", "<init>", "()V"⟩ ∈ wb := wb_t1 (List.mem_of_getElem? (i := 54) rfl) rfl
set_option maxRecDepth 20000 in
theorem k1_55 : Cond.code ⟨"FinalityTree$State", "<init>", "()V"⟩ prog_5_method_1_code 2 none ∈ wb := wb_t1 (List.mem_of_getElem? (i := 55) rfl) rfl
set_option maxRecDepth 20000 in
theorem k1_56 : Cond.methodLink "FinalityTree$State" 3 ⟨"java/lang/Object", "<init>", "()V"⟩ ∈ wb := wb_t1 (List.mem_of_getElem? (i := 56) rfl) rfl
set_option maxRecDepth 20000 in
theorem k1_57 : Cond.fieldLink "FinalityTree$State" 9 "FinalityTree$State" "balances" "[I" ∈ wb := wb_t1 (List.mem_of_getElem? (i := 57) rfl) rfl
set_option maxRecDepth 20000 in
theorem k1_58 : Cond.fieldLink "FinalityTree" 166 "FinalityTree$State" "balances" "[I" ∈ wb := wb_t1 (List.mem_of_getElem? (i := 58) rfl) rfl
set_option maxRecDepth 20000 in
theorem k1_59 : Cond.fieldLink "FinalityTree$State" 21 "FinalityTree$State" "punishedSet" "I" ∈ wb := wb_t1 (List.mem_of_getElem? (i := 59) rfl) rfl
set_option maxRecDepth 20000 in
theorem k1_60 : Cond.fieldLink "FinalityTree" 126 "FinalityTree$State" "punishedSet" "I" ∈ wb := wb_t1 (List.mem_of_getElem? (i := 60) rfl) rfl
set_option maxRecDepth 20000 in
theorem k1_61 : Cond.fieldLink "FinalityTree$State" 25 "FinalityTree$State" "justified" "I" ∈ wb := wb_t1 (List.mem_of_getElem? (i := 61) rfl) rfl
set_option maxRecDepth 20000 in
theorem k1_62 : Cond.fieldLink "FinalityTree" 83 "FinalityTree$State" "justified" "I" ∈ wb := wb_t1 (List.mem_of_getElem? (i := 62) rfl) rfl
set_option maxRecDepth 20000 in
theorem k1_63 : Cond.fieldLink "FinalityTree$State" 28 "FinalityTree$State" "finalized" "I" ∈ wb := wb_t1 (List.mem_of_getElem? (i := 63) rfl) rfl
set_option maxRecDepth 20000 in
theorem k1_64 : Cond.fieldLink "FinalityTree" 163 "FinalityTree$State" "finalized" "I" ∈ wb := wb_t1 (List.mem_of_getElem? (i := 64) rfl) rfl
set_option maxRecDepth 20000 in
theorem k1_65 : Cond.fieldLink "FinalityTree$State" 31 "FinalityTree$State" "epoch" "I" ∈ wb := wb_t1 (List.mem_of_getElem? (i := 65) rfl) rfl
set_option maxRecDepth 20000 in
theorem k1_66 : Cond.fieldLink "FinalityTree$State" 34 "FinalityTree$State" "countedNow" "I" ∈ wb := wb_t1 (List.mem_of_getElem? (i := 66) rfl) rfl
set_option maxRecDepth 20000 in
theorem k1_67 : Cond.fieldLink "FinalityTree$State" 37 "FinalityTree$State" "countedBefore" "I" ∈ wb := wb_t1 (List.mem_of_getElem? (i := 67) rfl) rfl
set_option maxRecDepth 20000 in
theorem k1_68 : Cond.laysFinal "FinalityTree$State" "FinalityTree$State" "balances" "[I" ∈ wb := wb_t1 (List.mem_of_getElem? (i := 68) rfl) rfl
set_option maxRecDepth 20000 in
theorem k1_70 : Cond.lays "FinalityTree$State" "FinalityTree$State" "punishedSet" "I" ∈ wb := wb_t1 (List.mem_of_getElem? (i := 70) rfl) rfl
set_option maxRecDepth 20000 in
theorem k1_72 : Cond.lays "FinalityTree$State" "FinalityTree$State" "justified" "I" ∈ wb := wb_t1 (List.mem_of_getElem? (i := 72) rfl) rfl
set_option maxRecDepth 20000 in
theorem k1_74 : Cond.lays "FinalityTree$State" "FinalityTree$State" "finalized" "I" ∈ wb := wb_t1 (List.mem_of_getElem? (i := 74) rfl) rfl
set_option maxRecDepth 20000 in
theorem k1_76 : Cond.lays "FinalityTree$State" "FinalityTree$State" "epoch" "I" ∈ wb := wb_t1 (List.mem_of_getElem? (i := 76) rfl) rfl
set_option maxRecDepth 20000 in
theorem k1_78 : Cond.lays "FinalityTree$State" "FinalityTree$State" "countedNow" "I" ∈ wb := wb_t1 (List.mem_of_getElem? (i := 78) rfl) rfl
set_option maxRecDepth 20000 in
theorem k1_80 : Cond.lays "FinalityTree$State" "FinalityTree$State" "countedBefore" "I" ∈ wb := wb_t1 (List.mem_of_getElem? (i := 80) rfl) rfl
set_option maxRecDepth 20000 in
theorem k1_83 : Cond.fieldLink "FinalityTree$Block" 9 "FinalityTree$Block" "parent" "I" ∈ wb := wb_t1 (List.mem_of_getElem? (i := 83) rfl) rfl
set_option maxRecDepth 20000 in
theorem k1_84 : Cond.fieldLink "FinalityTree" 144 "FinalityTree$Block" "parent" "I" ∈ wb := wb_t1 (List.mem_of_getElem? (i := 84) rfl) rfl
set_option maxRecDepth 20000 in
theorem k1_85 : Cond.fieldLink "FinalityTree" 89 "FinalityTree$Block" "slot" "I" ∈ wb := wb_t1 (List.mem_of_getElem? (i := 85) rfl) rfl
set_option maxRecDepth 20000 in
theorem k1_86 : Cond.fieldLink "FinalityTree" 147 "FinalityTree$Block" "proposer" "I" ∈ wb := wb_t1 (List.mem_of_getElem? (i := 86) rfl) rfl
set_option maxRecDepth 20000 in
theorem k1_87 : Cond.fieldLink "FinalityTree$Block" 15 "FinalityTree$Block" "chain" "J" ∈ wb := wb_t1 (List.mem_of_getElem? (i := 87) rfl) rfl
set_option maxRecDepth 20000 in
theorem k1_88 : Cond.fieldLink "FinalityTree" 150 "FinalityTree$Block" "chain" "J" ∈ wb := wb_t1 (List.mem_of_getElem? (i := 88) rfl) rfl
set_option maxRecDepth 20000 in
theorem k1_89 : Cond.fieldLink "FinalityTree$Block" 22 "FinalityTree$Block" "items" "LFinalityTree$Items;" ∈ wb := wb_t1 (List.mem_of_getElem? (i := 89) rfl) rfl
set_option maxRecDepth 20000 in
theorem k1_90 : Cond.fieldLink "FinalityTree" 154 "FinalityTree$Block" "items" "LFinalityTree$Items;" ∈ wb := wb_t1 (List.mem_of_getElem? (i := 90) rfl) rfl
set_option maxRecDepth 20000 in
theorem k1_91 : Cond.fieldLink "FinalityTree$Block" 29 "FinalityTree$Block" "state" "LFinalityTree$State;" ∈ wb := wb_t1 (List.mem_of_getElem? (i := 91) rfl) rfl
set_option maxRecDepth 20000 in
theorem k1_92 : Cond.fieldLink "FinalityTree" 80 "FinalityTree$Block" "state" "LFinalityTree$State;" ∈ wb := wb_t1 (List.mem_of_getElem? (i := 92) rfl) rfl
set_option maxRecDepth 20000 in
theorem k1_93 : Cond.lays "FinalityTree$Block" "FinalityTree$Block" "parent" "I" ∈ wb := wb_t1 (List.mem_of_getElem? (i := 93) rfl) rfl
set_option maxRecDepth 20000 in
theorem k1_95 : Cond.lays "FinalityTree$Block" "FinalityTree$Block" "slot" "I" ∈ wb := wb_t1 (List.mem_of_getElem? (i := 95) rfl) rfl
set_option maxRecDepth 20000 in
theorem k1_97 : Cond.lays "FinalityTree$Block" "FinalityTree$Block" "proposer" "I" ∈ wb := wb_t1 (List.mem_of_getElem? (i := 97) rfl) rfl
set_option maxRecDepth 20000 in
theorem k1_99 : Cond.lays "FinalityTree$Block" "FinalityTree$Block" "chain" "J" ∈ wb := wb_t1 (List.mem_of_getElem? (i := 99) rfl) rfl
set_option maxRecDepth 20000 in
theorem k1_101 : Cond.laysFinal "FinalityTree$Block" "FinalityTree$Block" "items" "LFinalityTree$Items;" ∈ wb := wb_t1 (List.mem_of_getElem? (i := 101) rfl) rfl
set_option maxRecDepth 20000 in
theorem k1_103 : Cond.laysFinal "FinalityTree$Block" "FinalityTree$Block" "state" "LFinalityTree$State;" ∈ wb := wb_t1 (List.mem_of_getElem? (i := 103) rfl) rfl
set_option maxRecDepth 20000 in
theorem k1_106 : Cond.classLink "FinalityTree" 39 "FinalityTree$Vote" ∈ wb := wb_t1 (List.mem_of_getElem? (i := 106) rfl) rfl
set_option maxRecDepth 20000 in
theorem k1_108 : Cond.instantiable "FinalityTree$Vote" 5 ∈ wb := wb_t1 (List.mem_of_getElem? (i := 108) rfl) rfl
set_option maxRecDepth 20000 in
theorem k1_110 : Cond.instanceMethod ⟨"FinalityTree$Vote", "<init>", "()V"⟩ ∈ wb := wb_t1 (List.mem_of_getElem? (i := 110) rfl) rfl
set_option maxRecDepth 20000 in
theorem k1_111 : Cond.code ⟨"FinalityTree$Vote", "<init>", "()V"⟩ prog_6_method_1_code 1 none ∈ wb := wb_t1 (List.mem_of_getElem? (i := 111) rfl) rfl
set_option maxRecDepth 20000 in
theorem k1_112 : Cond.methodLink "FinalityTree$Vote" 1 ⟨"java/lang/Object", "<init>", "()V"⟩ ∈ wb := wb_t1 (List.mem_of_getElem? (i := 112) rfl) rfl
set_option maxRecDepth 20000 in
theorem k1_113 : Cond.fieldLink "FinalityTree" 100 "FinalityTree$Vote" "validator" "I" ∈ wb := wb_t1 (List.mem_of_getElem? (i := 113) rfl) rfl
set_option maxRecDepth 20000 in
theorem k1_114 : Cond.fieldLink "FinalityTree" 103 "FinalityTree$Vote" "slot" "I" ∈ wb := wb_t1 (List.mem_of_getElem? (i := 114) rfl) rfl
set_option maxRecDepth 20000 in
theorem k1_115 : Cond.fieldLink "FinalityTree" 104 "FinalityTree$Vote" "head" "I" ∈ wb := wb_t1 (List.mem_of_getElem? (i := 115) rfl) rfl
set_option maxRecDepth 20000 in
theorem k1_116 : Cond.fieldLink "FinalityTree$Vote" 7 "FinalityTree$Vote" "source" "I" ∈ wb := wb_t1 (List.mem_of_getElem? (i := 116) rfl) rfl
set_option maxRecDepth 20000 in
theorem k1_117 : Cond.fieldLink "FinalityTree" 107 "FinalityTree$Vote" "source" "I" ∈ wb := wb_t1 (List.mem_of_getElem? (i := 117) rfl) rfl
set_option maxRecDepth 20000 in
theorem k1_118 : Cond.fieldLink "FinalityTree$Vote" 19 "FinalityTree$Vote" "target" "I" ∈ wb := wb_t1 (List.mem_of_getElem? (i := 118) rfl) rfl
set_option maxRecDepth 20000 in
theorem k1_119 : Cond.fieldLink "FinalityTree" 110 "FinalityTree$Vote" "target" "I" ∈ wb := wb_t1 (List.mem_of_getElem? (i := 119) rfl) rfl
set_option maxRecDepth 20000 in
theorem k1_120 : Cond.lays "FinalityTree$Vote" "FinalityTree$Vote" "validator" "I" ∈ wb := wb_t1 (List.mem_of_getElem? (i := 120) rfl) rfl
set_option maxRecDepth 20000 in
theorem k1_122 : Cond.lays "FinalityTree$Vote" "FinalityTree$Vote" "slot" "I" ∈ wb := wb_t1 (List.mem_of_getElem? (i := 122) rfl) rfl
set_option maxRecDepth 20000 in
theorem k1_124 : Cond.lays "FinalityTree$Vote" "FinalityTree$Vote" "head" "I" ∈ wb := wb_t1 (List.mem_of_getElem? (i := 124) rfl) rfl
set_option maxRecDepth 20000 in
theorem k1_126 : Cond.lays "FinalityTree$Vote" "FinalityTree$Vote" "source" "I" ∈ wb := wb_t1 (List.mem_of_getElem? (i := 126) rfl) rfl
set_option maxRecDepth 20000 in
theorem k1_128 : Cond.lays "FinalityTree$Vote" "FinalityTree$Vote" "target" "I" ∈ wb := wb_t1 (List.mem_of_getElem? (i := 128) rfl) rfl
set_option maxRecDepth 20000 in
theorem k1_131 : Cond.classLink "FinalityTree" 46 "FinalityTree$Node" ∈ wb := wb_t1 (List.mem_of_getElem? (i := 131) rfl) rfl
set_option maxRecDepth 20000 in
theorem k1_133 : Cond.instantiable "FinalityTree$Node" 5 ∈ wb := wb_t1 (List.mem_of_getElem? (i := 133) rfl) rfl
set_option maxRecDepth 20000 in
theorem k1_134 : Cond.methodLink "FinalityTree" 52 ⟨"FinalityTree$Node", "<init>", "()V"⟩ ∈ wb := wb_t1 (List.mem_of_getElem? (i := 134) rfl) rfl
set_option maxRecDepth 20000 in
theorem k1_135 : Cond.instanceMethod ⟨"FinalityTree$Node", "<init>", "()V"⟩ ∈ wb := wb_t1 (List.mem_of_getElem? (i := 135) rfl) rfl
set_option maxRecDepth 20000 in
theorem k1_136 : Cond.code ⟨"FinalityTree$Node", "<init>", "()V"⟩ prog_4_method_1_code 2 none ∈ wb := wb_t1 (List.mem_of_getElem? (i := 136) rfl) rfl
set_option maxRecDepth 20000 in
theorem k1_137 : Cond.methodLink "FinalityTree$Node" 3 ⟨"java/lang/Object", "<init>", "()V"⟩ ∈ wb := wb_t1 (List.mem_of_getElem? (i := 137) rfl) rfl
set_option maxRecDepth 20000 in
theorem k1_138 : Cond.fieldLink "FinalityTree$Node" 9 "FinalityTree$Node" "knownBlocks" "J" ∈ wb := wb_t1 (List.mem_of_getElem? (i := 138) rfl) rfl
set_option maxRecDepth 20000 in
theorem k1_139 : Cond.fieldLink "FinalityTree" 181 "FinalityTree$Node" "knownBlocks" "J" ∈ wb := wb_t1 (List.mem_of_getElem? (i := 139) rfl) rfl
set_option maxRecDepth 20000 in
theorem k1_140 : Cond.fieldLink "FinalityTree$Node" 15 "FinalityTree$Node" "heardVotes" "[Z" ∈ wb := wb_t1 (List.mem_of_getElem? (i := 140) rfl) rfl
set_option maxRecDepth 20000 in
theorem k1_141 : Cond.fieldLink "FinalityTree" 192 "FinalityTree$Node" "heardVotes" "[Z" ∈ wb := wb_t1 (List.mem_of_getElem? (i := 141) rfl) rfl
set_option maxRecDepth 20000 in
theorem k1_142 : Cond.fieldLink "FinalityTree$Node" 19 "FinalityTree$Node" "latest" "[I" ∈ wb := wb_t1 (List.mem_of_getElem? (i := 142) rfl) rfl
set_option maxRecDepth 20000 in
theorem k1_143 : Cond.fieldLink "FinalityTree" 239 "FinalityTree$Node" "latest" "[I" ∈ wb := wb_t1 (List.mem_of_getElem? (i := 143) rfl) rfl
set_option maxRecDepth 20000 in
theorem k1_144 : Cond.fieldLink "FinalityTree" 200 "FinalityTree$Node" "justified" "I" ∈ wb := wb_t1 (List.mem_of_getElem? (i := 144) rfl) rfl
set_option maxRecDepth 20000 in
theorem k1_145 : Cond.fieldLink "FinalityTree" 205 "FinalityTree$Node" "finalized" "I" ∈ wb := wb_t1 (List.mem_of_getElem? (i := 145) rfl) rfl
set_option maxRecDepth 20000 in
theorem k1_146 : Cond.lays "FinalityTree$Node" "FinalityTree$Node" "knownBlocks" "J" ∈ wb := wb_t1 (List.mem_of_getElem? (i := 146) rfl) rfl
set_option maxRecDepth 20000 in
theorem k1_148 : Cond.laysFinal "FinalityTree$Node" "FinalityTree$Node" "heardVotes" "[Z" ∈ wb := wb_t1 (List.mem_of_getElem? (i := 148) rfl) rfl
set_option maxRecDepth 20000 in
theorem k1_150 : Cond.laysFinal "FinalityTree$Node" "FinalityTree$Node" "latest" "[I" ∈ wb := wb_t1 (List.mem_of_getElem? (i := 150) rfl) rfl
set_option maxRecDepth 20000 in
theorem k1_152 : Cond.lays "FinalityTree$Node" "FinalityTree$Node" "justified" "I" ∈ wb := wb_t1 (List.mem_of_getElem? (i := 152) rfl) rfl
set_option maxRecDepth 20000 in
theorem k1_154 : Cond.lays "FinalityTree$Node" "FinalityTree$Node" "finalized" "I" ∈ wb := wb_t1 (List.mem_of_getElem? (i := 154) rfl) rfl
set_option maxRecDepth 20000 in
theorem k1_157 : Cond.arrayClass .boolean ∈ wb := wb_t1 (List.mem_of_getElem? (i := 157) rfl) rfl
set_option maxRecDepth 20000 in
theorem k1_158 : Cond.classLink "FinalityTree" 53 "FinalityTree$Items" ∈ wb := wb_t1 (List.mem_of_getElem? (i := 158) rfl) rfl
set_option maxRecDepth 20000 in
theorem k1_160 : Cond.classLink "FinalityTree" 60 "FinalityTree$State" ∈ wb := wb_t1 (List.mem_of_getElem? (i := 160) rfl) rfl
set_option maxRecDepth 20000 in
theorem k1_161 : Cond.methodLink "FinalityTree" 62 ⟨"FinalityTree$State", "<init>", "()V"⟩ ∈ wb := wb_t1 (List.mem_of_getElem? (i := 161) rfl) rfl
set_option maxRecDepth 20000 in
theorem k1_162 : Cond.fieldLink "FinalityTree" 18 "FinalityTree" "validators" "I" ∈ wb := wb_t1 (List.mem_of_getElem? (i := 162) rfl) rfl
set_option maxRecDepth 20000 in
theorem k1_163 : Cond.fieldLink "FinalityTree" 22 "FinalityTree" "length" "I" ∈ wb := wb_t1 (List.mem_of_getElem? (i := 163) rfl) rfl
set_option maxRecDepth 20000 in
theorem k1_164 : Cond.fieldLink "FinalityTree" 25 "FinalityTree" "weightRow" "[I" ∈ wb := wb_t1 (List.mem_of_getElem? (i := 164) rfl) rfl
set_option maxRecDepth 20000 in
theorem k1_165 : Cond.fieldLink "FinalityTree" 29 "FinalityTree" "total" "I" ∈ wb := wb_t1 (List.mem_of_getElem? (i := 165) rfl) rfl
set_option maxRecDepth 20000 in
theorem k1_166 : Cond.fieldLink "FinalityTree" 34 "FinalityTree" "blocks" "[LFinalityTree$Block;" ∈ wb := wb_t1 (List.mem_of_getElem? (i := 166) rfl) rfl
set_option maxRecDepth 20000 in
theorem k1_167 : Cond.fieldLink "FinalityTree" 67 "FinalityTree" "blockCount" "I" ∈ wb := wb_t1 (List.mem_of_getElem? (i := 167) rfl) rfl
set_option maxRecDepth 20000 in
theorem k1_168 : Cond.fieldLink "FinalityTree" 41 "FinalityTree" "votes" "[LFinalityTree$Vote;" ∈ wb := wb_t1 (List.mem_of_getElem? (i := 168) rfl) rfl
set_option maxRecDepth 20000 in
theorem k1_169 : Cond.fieldLink "FinalityTree" 70 "FinalityTree" "voteCount" "I" ∈ wb := wb_t1 (List.mem_of_getElem? (i := 169) rfl) rfl
set_option maxRecDepth 20000 in
theorem k1_170 : Cond.fieldLink "FinalityTree" 48 "FinalityTree" "nodes" "[LFinalityTree$Node;" ∈ wb := wb_t1 (List.mem_of_getElem? (i := 170) rfl) rfl
set_option maxRecDepth 20000 in
theorem k1_171 : Cond.fieldLink "FinalityTree" 56 "FinalityTree" "pending" "LFinalityTree$Items;" ∈ wb := wb_t1 (List.mem_of_getElem? (i := 171) rfl) rfl
set_option maxRecDepth 20000 in
theorem k1_172 : Cond.fieldLink "FinalityTree" 63 "FinalityTree" "draft" "LFinalityTree$State;" ∈ wb := wb_t1 (List.mem_of_getElem? (i := 172) rfl) rfl
set_option maxRecDepth 20000 in
theorem k1_173 : Cond.laysFinal "FinalityTree" "FinalityTree" "validators" "I" ∈ wb := wb_t1 (List.mem_of_getElem? (i := 173) rfl) rfl
set_option maxRecDepth 20000 in
theorem k1_175 : Cond.laysFinal "FinalityTree" "FinalityTree" "length" "I" ∈ wb := wb_t1 (List.mem_of_getElem? (i := 175) rfl) rfl
set_option maxRecDepth 20000 in
theorem k1_177 : Cond.laysFinal "FinalityTree" "FinalityTree" "weightRow" "[I" ∈ wb := wb_t1 (List.mem_of_getElem? (i := 177) rfl) rfl
set_option maxRecDepth 20000 in
theorem k1_179 : Cond.laysFinal "FinalityTree" "FinalityTree" "total" "I" ∈ wb := wb_t1 (List.mem_of_getElem? (i := 179) rfl) rfl
set_option maxRecDepth 20000 in
theorem k1_181 : Cond.laysFinal "FinalityTree" "FinalityTree" "blocks" "[LFinalityTree$Block;" ∈ wb := wb_t1 (List.mem_of_getElem? (i := 181) rfl) rfl
set_option maxRecDepth 20000 in
theorem k1_183 : Cond.lays "FinalityTree" "FinalityTree" "blockCount" "I" ∈ wb := wb_t1 (List.mem_of_getElem? (i := 183) rfl) rfl
set_option maxRecDepth 20000 in
theorem k1_185 : Cond.laysFinal "FinalityTree" "FinalityTree" "votes" "[LFinalityTree$Vote;" ∈ wb := wb_t1 (List.mem_of_getElem? (i := 185) rfl) rfl
set_option maxRecDepth 20000 in
theorem k1_187 : Cond.lays "FinalityTree" "FinalityTree" "voteCount" "I" ∈ wb := wb_t1 (List.mem_of_getElem? (i := 187) rfl) rfl
set_option maxRecDepth 20000 in
theorem k1_189 : Cond.laysFinal "FinalityTree" "FinalityTree" "nodes" "[LFinalityTree$Node;" ∈ wb := wb_t1 (List.mem_of_getElem? (i := 189) rfl) rfl
set_option maxRecDepth 20000 in
theorem k1_191 : Cond.laysFinal "FinalityTree" "FinalityTree" "pending" "LFinalityTree$Items;" ∈ wb := wb_t1 (List.mem_of_getElem? (i := 191) rfl) rfl
set_option maxRecDepth 20000 in
theorem k1_193 : Cond.laysFinal "FinalityTree" "FinalityTree" "draft" "LFinalityTree$State;" ∈ wb := wb_t1 (List.mem_of_getElem? (i := 193) rfl) rfl
set_option maxRecDepth 20000 in
theorem k1_196 : Cond.methodLink "FinalityTreeLaw" 21 ⟨"FinalityTree", "vote", "(III)I"⟩ ∈ wb := wb_t1 (List.mem_of_getElem? (i := 196) rfl) rfl
set_option maxRecDepth 20000 in
theorem k1_197 : Cond.instanceMethod ⟨"FinalityTree", "vote", "(III)I"⟩ ∈ wb := wb_t1 (List.mem_of_getElem? (i := 197) rfl) rfl
set_option maxRecDepth 20000 in
theorem k1_198 : Cond.selects "FinalityTree" ⟨"FinalityTree", "vote", "(III)I"⟩ ⟨"FinalityTree", "vote", "(III)I"⟩ ∈ wb := wb_t1 (List.mem_of_getElem? (i := 198) rfl) rfl
set_option maxRecDepth 20000 in
theorem k1_199 : Cond.code ⟨"FinalityTree", "vote", "(III)I"⟩ prog_1_method_2_code 8 (some .int) ∈ wb := wb_t1 (List.mem_of_getElem? (i := 199) rfl) rfl
set_option maxRecDepth 20000 in
theorem k1_200 : Cond.methodLink "FinalityTree" 73 ⟨"FinalityTree", "isValidator", "(I)Z"⟩ ∈ wb := wb_t1 (List.mem_of_getElem? (i := 200) rfl) rfl
set_option maxRecDepth 20000 in
theorem k1_202 : Cond.instanceMethod ⟨"FinalityTree", "isValidator", "(I)Z"⟩ ∈ wb := wb_t1 (List.mem_of_getElem? (i := 202) rfl) rfl
set_option maxRecDepth 20000 in
theorem k1_203 : Cond.code ⟨"FinalityTree", "isValidator", "(I)Z"⟩ prog_1_method_20_code 2 (some .boolean) ∈ wb := wb_t1 (List.mem_of_getElem? (i := 203) rfl) rfl
set_option maxRecDepth 20000 in
theorem k1_204 : Cond.methodLink "FinalityTree" 77 ⟨"FinalityTree", "isBlock", "(I)Z"⟩ ∈ wb := wb_t1 (List.mem_of_getElem? (i := 204) rfl) rfl
set_option maxRecDepth 20000 in
theorem k1_206 : Cond.instanceMethod ⟨"FinalityTree", "isBlock", "(I)Z"⟩ ∈ wb := wb_t1 (List.mem_of_getElem? (i := 206) rfl) rfl
set_option maxRecDepth 20000 in
theorem k1_207 : Cond.code ⟨"FinalityTree", "isBlock", "(I)Z"⟩ prog_1_method_21_code 2 (some .boolean) ∈ wb := wb_t1 (List.mem_of_getElem? (i := 207) rfl) rfl
set_option maxRecDepth 20000 in
theorem k1_208 : Cond.methodLink "FinalityTree" 86 ⟨"FinalityTree", "checkpointOn", "(II)I"⟩ ∈ wb := wb_t1 (List.mem_of_getElem? (i := 208) rfl) rfl
set_option maxRecDepth 20000 in
theorem k1_210 : Cond.instanceMethod ⟨"FinalityTree", "checkpointOn", "(II)I"⟩ ∈ wb := wb_t1 (List.mem_of_getElem? (i := 210) rfl) rfl
set_option maxRecDepth 20000 in
theorem k1_211 : Cond.code ⟨"FinalityTree", "checkpointOn", "(II)I"⟩ prog_1_method_29_code 5 (some .int) ∈ wb := wb_t1 (List.mem_of_getElem? (i := 211) rfl) rfl
set_option maxRecDepth 20000 in
theorem k1_212 : Cond.methodLink "FinalityTree" 206 ⟨"FinalityTree", "descends", "(II)Z"⟩ ∈ wb := wb_t1 (List.mem_of_getElem? (i := 212) rfl) rfl
set_option maxRecDepth 20000 in
theorem k1_214 : Cond.instanceMethod ⟨"FinalityTree", "descends", "(II)Z"⟩ ∈ wb := wb_t1 (List.mem_of_getElem? (i := 214) rfl) rfl
set_option maxRecDepth 20000 in
theorem k1_215 : Cond.code ⟨"FinalityTree", "descends", "(II)Z"⟩ prog_1_method_28_code 3 (some .boolean) ∈ wb := wb_t1 (List.mem_of_getElem? (i := 215) rfl) rfl
set_option maxRecDepth 20000 in
theorem k1_216 : Cond.methodLink "FinalityTree" 213 ⟨"FinalityTree", "checkpointOf", "(II)I"⟩ ∈ wb := wb_t1 (List.mem_of_getElem? (i := 216) rfl) rfl
set_option maxRecDepth 20000 in
theorem k1_217 : Cond.static ⟨"FinalityTree", "checkpointOf", "(II)I"⟩ ∈ wb := wb_t1 (List.mem_of_getElem? (i := 217) rfl) rfl
set_option maxRecDepth 20000 in
theorem k1_218 : Cond.code ⟨"FinalityTree", "checkpointOf", "(II)I"⟩ prog_1_method_25_code 2 (some .int) ∈ wb := wb_t1 (List.mem_of_getElem? (i := 218) rfl) rfl
set_option maxRecDepth 20000 in
theorem k1_219 : Cond.methodLink "FinalityTree" 92 ⟨"FinalityTree", "epochOf", "(I)I"⟩ ∈ wb := wb_t1 (List.mem_of_getElem? (i := 219) rfl) rfl
set_option maxRecDepth 20000 in
theorem k1_220 : Cond.static ⟨"FinalityTree", "epochOf", "(I)I"⟩ ∈ wb := wb_t1 (List.mem_of_getElem? (i := 220) rfl) rfl
set_option maxRecDepth 20000 in
theorem k1_221 : Cond.code ⟨"FinalityTree", "epochOf", "(I)I"⟩ prog_1_method_26_code 1 (some .int) ∈ wb := wb_t1 (List.mem_of_getElem? (i := 221) rfl) rfl
set_option maxRecDepth 20000 in
theorem k1_222 : Cond.methodLink "FinalityTree" 96 ⟨"FinalityTree", "voteAlike", "(III)I"⟩ ∈ wb := wb_t1 (List.mem_of_getElem? (i := 222) rfl) rfl
set_option maxRecDepth 20000 in
theorem k1_224 : Cond.instanceMethod ⟨"FinalityTree", "voteAlike", "(III)I"⟩ ∈ wb := wb_t1 (List.mem_of_getElem? (i := 224) rfl) rfl
set_option maxRecDepth 20000 in
theorem k1_225 : Cond.code ⟨"FinalityTree", "voteAlike", "(III)I"⟩ prog_1_method_31_code 5 (some .int) ∈ wb := wb_t1 (List.mem_of_getElem? (i := 225) rfl) rfl
set_option maxRecDepth 20000 in
theorem k1_226 : Cond.methodLink "FinalityTreeLaw" 26 ⟨"FinalityTree", "include", "(I)I"⟩ ∈ wb := wb_t1 (List.mem_of_getElem? (i := 226) rfl) rfl
set_option maxRecDepth 20000 in
theorem k1_227 : Cond.instanceMethod ⟨"FinalityTree", "include", "(I)I"⟩ ∈ wb := wb_t1 (List.mem_of_getElem? (i := 227) rfl) rfl
set_option maxRecDepth 20000 in
theorem k1_228 : Cond.selects "FinalityTree" ⟨"FinalityTree", "include", "(I)I"⟩ ⟨"FinalityTree", "include", "(I)I"⟩ ∈ wb := wb_t1 (List.mem_of_getElem? (i := 228) rfl) rfl
set_option maxRecDepth 20000 in
theorem k1_229 : Cond.code ⟨"FinalityTree", "include", "(I)I"⟩ prog_1_method_3_code 2 (some .int) ∈ wb := wb_t1 (List.mem_of_getElem? (i := 229) rfl) rfl
set_option maxRecDepth 20000 in
theorem k1_230 : Cond.methodLink "FinalityTree" 113 ⟨"FinalityTree", "isVote", "(I)Z"⟩ ∈ wb := wb_t1 (List.mem_of_getElem? (i := 230) rfl) rfl
set_option maxRecDepth 20000 in
theorem k1_232 : Cond.instanceMethod ⟨"FinalityTree", "isVote", "(I)Z"⟩ ∈ wb := wb_t1 (List.mem_of_getElem? (i := 232) rfl) rfl
set_option maxRecDepth 20000 in
theorem k1_233 : Cond.code ⟨"FinalityTree", "isVote", "(I)Z"⟩ prog_1_method_22_code 2 (some .boolean) ∈ wb := wb_t1 (List.mem_of_getElem? (i := 233) rfl) rfl
set_option maxRecDepth 20000 in
theorem k1_234 : Cond.methodLink "FinalityTree" 116 ⟨"FinalityTree$Items", "append", "(II)I"⟩ ∈ wb := wb_t1 (List.mem_of_getElem? (i := 234) rfl) rfl
set_option maxRecDepth 20000 in
theorem k1_235 : Cond.instanceMethod ⟨"FinalityTree$Items", "append", "(II)I"⟩ ∈ wb := wb_t1 (List.mem_of_getElem? (i := 235) rfl) rfl
set_option maxRecDepth 20000 in
theorem k1_236 : Cond.selects "FinalityTree$Items" ⟨"FinalityTree$Items", "append", "(II)I"⟩ ⟨"FinalityTree$Items", "append", "(II)I"⟩ ∈ wb := wb_t1 (List.mem_of_getElem? (i := 236) rfl) rfl
set_option maxRecDepth 20000 in
theorem k1_237 : Cond.code ⟨"FinalityTree$Items", "append", "(II)I"⟩ prog_3_method_2_code 3 (some .int) ∈ wb := wb_t1 (List.mem_of_getElem? (i := 237) rfl) rfl
set_option maxRecDepth 20000 in
theorem k1_238 : Cond.methodLink "FinalityTreeLaw" 31 ⟨"FinalityTree", "accuse", "(II)I"⟩ ∈ wb := wb_t1 (List.mem_of_getElem? (i := 238) rfl) rfl
set_option maxRecDepth 20000 in
theorem k1_239 : Cond.instanceMethod ⟨"FinalityTree", "accuse", "(II)I"⟩ ∈ wb := wb_t1 (List.mem_of_getElem? (i := 239) rfl) rfl
set_option maxRecDepth 20000 in
theorem k2_0 : Cond.selects "FinalityTree" ⟨"FinalityTree", "accuse", "(II)I"⟩ ⟨"FinalityTree", "accuse", "(II)I"⟩ ∈ wb := wb_t2 (List.mem_of_getElem? (i := 0) rfl) rfl
set_option maxRecDepth 20000 in
theorem k2_1 : Cond.code ⟨"FinalityTree", "accuse", "(II)I"⟩ prog_1_method_4_code 3 (some .int) ∈ wb := wb_t2 (List.mem_of_getElem? (i := 1) rfl) rfl
set_option maxRecDepth 20000 in
theorem k2_2 : Cond.methodLink "FinalityTree" 119 ⟨"FinalityTree", "clash", "(II)Z"⟩ ∈ wb := wb_t2 (List.mem_of_getElem? (i := 2) rfl) rfl
set_option maxRecDepth 20000 in
theorem k2_4 : Cond.instanceMethod ⟨"FinalityTree", "clash", "(II)Z"⟩ ∈ wb := wb_t2 (List.mem_of_getElem? (i := 4) rfl) rfl
set_option maxRecDepth 20000 in
theorem k2_5 : Cond.code ⟨"FinalityTree", "clash", "(II)Z"⟩ prog_1_method_32_code 5 (some .boolean) ∈ wb := wb_t2 (List.mem_of_getElem? (i := 5) rfl) rfl
set_option maxRecDepth 20000 in
theorem k2_6 : Cond.methodLink "FinalityTree" 216 ⟨"FinalityTree$Vote", "surrounds", "(LFinalityTree$Vote;)Z"⟩ ∈ wb := wb_t2 (List.mem_of_getElem? (i := 6) rfl) rfl
set_option maxRecDepth 20000 in
theorem k2_7 : Cond.instanceMethod ⟨"FinalityTree$Vote", "surrounds", "(LFinalityTree$Vote;)Z"⟩ ∈ wb := wb_t2 (List.mem_of_getElem? (i := 7) rfl) rfl
set_option maxRecDepth 20000 in
theorem k2_8 : Cond.selects "FinalityTree$Vote" ⟨"FinalityTree$Vote", "surrounds", "(LFinalityTree$Vote;)Z"⟩ ⟨"FinalityTree$Vote", "surrounds", "(LFinalityTree$Vote;)Z"⟩ ∈ wb := wb_t2 (List.mem_of_getElem? (i := 8) rfl) rfl
set_option maxRecDepth 20000 in
theorem k2_9 : Cond.code ⟨"FinalityTree$Vote", "surrounds", "(LFinalityTree$Vote;)Z"⟩ prog_6_method_2_code 2 (some .boolean) ∈ wb := wb_t2 (List.mem_of_getElem? (i := 9) rfl) rfl
set_option maxRecDepth 20000 in
theorem k2_11 : Cond.methodLink "FinalityTreeLaw" 36 ⟨"FinalityTree", "clear", "()I"⟩ ∈ wb := wb_t2 (List.mem_of_getElem? (i := 11) rfl) rfl
set_option maxRecDepth 20000 in
theorem k2_12 : Cond.instanceMethod ⟨"FinalityTree", "clear", "()I"⟩ ∈ wb := wb_t2 (List.mem_of_getElem? (i := 12) rfl) rfl
set_option maxRecDepth 20000 in
theorem k2_13 : Cond.selects "FinalityTree" ⟨"FinalityTree", "clear", "()I"⟩ ⟨"FinalityTree", "clear", "()I"⟩ ∈ wb := wb_t2 (List.mem_of_getElem? (i := 13) rfl) rfl
set_option maxRecDepth 20000 in
theorem k2_14 : Cond.code ⟨"FinalityTree", "clear", "()I"⟩ prog_1_method_5_code 2 (some .int) ∈ wb := wb_t2 (List.mem_of_getElem? (i := 14) rfl) rfl
set_option maxRecDepth 20000 in
theorem k2_15 : Cond.methodLink "FinalityTreeLaw" 41 ⟨"FinalityTree", "propose", "(II)I"⟩ ∈ wb := wb_t2 (List.mem_of_getElem? (i := 15) rfl) rfl
set_option maxRecDepth 20000 in
theorem k2_16 : Cond.instanceMethod ⟨"FinalityTree", "propose", "(II)I"⟩ ∈ wb := wb_t2 (List.mem_of_getElem? (i := 16) rfl) rfl
set_option maxRecDepth 20000 in
theorem k2_17 : Cond.selects "FinalityTree" ⟨"FinalityTree", "propose", "(II)I"⟩ ⟨"FinalityTree", "propose", "(II)I"⟩ ∈ wb := wb_t2 (List.mem_of_getElem? (i := 17) rfl) rfl
set_option maxRecDepth 20000 in
theorem k2_18 : Cond.code ⟨"FinalityTree", "propose", "(II)I"⟩ prog_1_method_6_code 6 (some .int) ∈ wb := wb_t2 (List.mem_of_getElem? (i := 18) rfl) rfl
set_option maxRecDepth 20000 in
theorem k2_19 : Cond.methodLink "FinalityTree" 129 ⟨"FinalityTree", "isIn", "(II)Z"⟩ ∈ wb := wb_t2 (List.mem_of_getElem? (i := 19) rfl) rfl
set_option maxRecDepth 20000 in
theorem k2_20 : Cond.static ⟨"FinalityTree", "isIn", "(II)Z"⟩ ∈ wb := wb_t2 (List.mem_of_getElem? (i := 20) rfl) rfl
set_option maxRecDepth 20000 in
theorem k2_21 : Cond.code ⟨"FinalityTree", "isIn", "(II)Z"⟩ prog_1_method_24_code 2 (some .boolean) ∈ wb := wb_t2 (List.mem_of_getElem? (i := 21) rfl) rfl
set_option maxRecDepth 20000 in
theorem k2_22 : Cond.methodLink "FinalityTree" 132 ⟨"FinalityTree$State", "copyFrom", "(LFinalityTree$State;)V"⟩ ∈ wb := wb_t2 (List.mem_of_getElem? (i := 22) rfl) rfl
set_option maxRecDepth 20000 in
theorem k2_23 : Cond.instanceMethod ⟨"FinalityTree$State", "copyFrom", "(LFinalityTree$State;)V"⟩ ∈ wb := wb_t2 (List.mem_of_getElem? (i := 23) rfl) rfl
set_option maxRecDepth 20000 in
theorem k2_24 : Cond.selects "FinalityTree$State" ⟨"FinalityTree$State", "copyFrom", "(LFinalityTree$State;)V"⟩ ⟨"FinalityTree$State", "copyFrom", "(LFinalityTree$State;)V"⟩ ∈ wb := wb_t2 (List.mem_of_getElem? (i := 24) rfl) rfl
set_option maxRecDepth 20000 in
theorem k2_25 : Cond.code ⟨"FinalityTree$State", "copyFrom", "(LFinalityTree$State;)V"⟩ prog_5_method_2_code 2 none ∈ wb := wb_t2 (List.mem_of_getElem? (i := 25) rfl) rfl
set_option maxRecDepth 20000 in
theorem k2_26 : Cond.methodLink "FinalityTree$State" 15 ⟨"java/lang/System", "arraycopy", "(Ljava/lang/Object;ILjava/lang/Object;II)V"⟩ ∈ wb := wb_t2 (List.mem_of_getElem? (i := 26) rfl) rfl
set_option maxRecDepth 20000 in
theorem k2_27 : Cond.static ⟨"java/lang/System", "arraycopy", "(Ljava/lang/Object;ILjava/lang/Object;II)V"⟩ ∈ wb := wb_t2 (List.mem_of_getElem? (i := 27) rfl) rfl
set_option maxRecDepth 20000 in
theorem k2_28 : Cond.native ⟨"java/lang/System", "arraycopy", "(Ljava/lang/Object;ILjava/lang/Object;II)V"⟩ ∈ wb := wb_t2 (List.mem_of_getElem? (i := 28) rfl) rfl
set_option maxRecDepth 20000 in
theorem k2_29 : Cond.methodLink "FinalityTree" 136 ⟨"FinalityTree$State", "passTo", "(II)V"⟩ ∈ wb := wb_t2 (List.mem_of_getElem? (i := 29) rfl) rfl
set_option maxRecDepth 20000 in
theorem k2_30 : Cond.instanceMethod ⟨"FinalityTree$State", "passTo", "(II)V"⟩ ∈ wb := wb_t2 (List.mem_of_getElem? (i := 30) rfl) rfl
set_option maxRecDepth 20000 in
theorem k2_31 : Cond.selects "FinalityTree$State" ⟨"FinalityTree$State", "passTo", "(II)V"⟩ ⟨"FinalityTree$State", "passTo", "(II)V"⟩ ∈ wb := wb_t2 (List.mem_of_getElem? (i := 31) rfl) rfl
set_option maxRecDepth 20000 in
theorem k2_32 : Cond.code ⟨"FinalityTree$State", "passTo", "(II)V"⟩ prog_5_method_3_code 4 none ∈ wb := wb_t2 (List.mem_of_getElem? (i := 32) rfl) rfl
set_option maxRecDepth 20000 in
theorem k2_34 : Cond.methodLink "FinalityTree" 140 ⟨"FinalityTree", "takeItem", "(III)Z"⟩ ∈ wb := wb_t2 (List.mem_of_getElem? (i := 34) rfl) rfl
set_option maxRecDepth 20000 in
theorem k2_36 : Cond.instanceMethod ⟨"FinalityTree", "takeItem", "(III)Z"⟩ ∈ wb := wb_t2 (List.mem_of_getElem? (i := 36) rfl) rfl
set_option maxRecDepth 20000 in
theorem k2_37 : Cond.code ⟨"FinalityTree", "takeItem", "(III)Z"⟩ prog_1_method_33_code 5 (some .boolean) ∈ wb := wb_t2 (List.mem_of_getElem? (i := 37) rfl) rfl
set_option maxRecDepth 20000 in
theorem k2_38 : Cond.methodLink "FinalityTree" 226 ⟨"FinalityTree", "takeVote", "(LFinalityTree$Vote;II)Z"⟩ ∈ wb := wb_t2 (List.mem_of_getElem? (i := 38) rfl) rfl
set_option maxRecDepth 20000 in
theorem k2_40 : Cond.instanceMethod ⟨"FinalityTree", "takeVote", "(LFinalityTree$Vote;II)Z"⟩ ∈ wb := wb_t2 (List.mem_of_getElem? (i := 40) rfl) rfl
set_option maxRecDepth 20000 in
theorem k2_41 : Cond.code ⟨"FinalityTree", "takeVote", "(LFinalityTree$Vote;II)Z"⟩ prog_1_method_34_code 5 (some .boolean) ∈ wb := wb_t2 (List.mem_of_getElem? (i := 41) rfl) rfl
set_option maxRecDepth 20000 in
theorem k2_42 : Cond.methodLink "FinalityTree" 169 ⟨"FinalityTree$State", "countedFor", "(I)I"⟩ ∈ wb := wb_t2 (List.mem_of_getElem? (i := 42) rfl) rfl
set_option maxRecDepth 20000 in
theorem k2_43 : Cond.instanceMethod ⟨"FinalityTree$State", "countedFor", "(I)I"⟩ ∈ wb := wb_t2 (List.mem_of_getElem? (i := 43) rfl) rfl
set_option maxRecDepth 20000 in
theorem k2_44 : Cond.selects "FinalityTree$State" ⟨"FinalityTree$State", "countedFor", "(I)I"⟩ ⟨"FinalityTree$State", "countedFor", "(I)I"⟩ ∈ wb := wb_t2 (List.mem_of_getElem? (i := 44) rfl) rfl
set_option maxRecDepth 20000 in
theorem k2_45 : Cond.code ⟨"FinalityTree$State", "countedFor", "(I)I"⟩ prog_5_method_4_code 2 (some .int) ∈ wb := wb_t2 (List.mem_of_getElem? (i := 45) rfl) rfl
set_option maxRecDepth 20000 in
theorem k2_46 : Cond.methodLink "FinalityTree" 233 ⟨"FinalityTree$State", "addCounted", "(II)V"⟩ ∈ wb := wb_t2 (List.mem_of_getElem? (i := 46) rfl) rfl
set_option maxRecDepth 20000 in
theorem k2_47 : Cond.instanceMethod ⟨"FinalityTree$State", "addCounted", "(II)V"⟩ ∈ wb := wb_t2 (List.mem_of_getElem? (i := 47) rfl) rfl
set_option maxRecDepth 20000 in
theorem k2_48 : Cond.selects "FinalityTree$State" ⟨"FinalityTree$State", "addCounted", "(II)V"⟩ ⟨"FinalityTree$State", "addCounted", "(II)V"⟩ ∈ wb := wb_t2 (List.mem_of_getElem? (i := 48) rfl) rfl
set_option maxRecDepth 20000 in
theorem k2_49 : Cond.code ⟨"FinalityTree$State", "addCounted", "(II)V"⟩ prog_5_method_5_code 3 none ∈ wb := wb_t2 (List.mem_of_getElem? (i := 49) rfl) rfl
set_option maxRecDepth 20000 in
theorem k2_50 : Cond.methodLink "FinalityTree" 172 ⟨"FinalityTree", "weightOf", "(I)I"⟩ ∈ wb := wb_t2 (List.mem_of_getElem? (i := 50) rfl) rfl
set_option maxRecDepth 20000 in
theorem k2_52 : Cond.instanceMethod ⟨"FinalityTree", "weightOf", "(I)I"⟩ ∈ wb := wb_t2 (List.mem_of_getElem? (i := 52) rfl) rfl
set_option maxRecDepth 20000 in
theorem k2_53 : Cond.code ⟨"FinalityTree", "weightOf", "(I)I"⟩ prog_1_method_30_code 4 (some .int) ∈ wb := wb_t2 (List.mem_of_getElem? (i := 53) rfl) rfl
set_option maxRecDepth 20000 in
theorem k2_54 : Cond.methodLink "FinalityTree" 236 ⟨"FinalityTree$State", "justify", "(II)V"⟩ ∈ wb := wb_t2 (List.mem_of_getElem? (i := 54) rfl) rfl
set_option maxRecDepth 20000 in
theorem k2_55 : Cond.instanceMethod ⟨"FinalityTree$State", "justify", "(II)V"⟩ ∈ wb := wb_t2 (List.mem_of_getElem? (i := 55) rfl) rfl
set_option maxRecDepth 20000 in
theorem k2_56 : Cond.selects "FinalityTree$State" ⟨"FinalityTree$State", "justify", "(II)V"⟩ ⟨"FinalityTree$State", "justify", "(II)V"⟩ ∈ wb := wb_t2 (List.mem_of_getElem? (i := 56) rfl) rfl
set_option maxRecDepth 20000 in
theorem k2_57 : Cond.code ⟨"FinalityTree$State", "justify", "(II)V"⟩ prog_5_method_6_code 3 none ∈ wb := wb_t2 (List.mem_of_getElem? (i := 57) rfl) rfl
set_option maxRecDepth 20000 in
theorem k2_59 : Cond.methodLink "FinalityTree" 230 ⟨"FinalityTree", "takeEvidence", "(II)Z"⟩ ∈ wb := wb_t2 (List.mem_of_getElem? (i := 59) rfl) rfl
set_option maxRecDepth 20000 in
theorem k2_61 : Cond.instanceMethod ⟨"FinalityTree", "takeEvidence", "(II)Z"⟩ ∈ wb := wb_t2 (List.mem_of_getElem? (i := 61) rfl) rfl
set_option maxRecDepth 20000 in
theorem k2_62 : Cond.code ⟨"FinalityTree", "takeEvidence", "(II)Z"⟩ prog_1_method_35_code 3 (some .boolean) ∈ wb := wb_t2 (List.mem_of_getElem? (i := 62) rfl) rfl
set_option maxRecDepth 20000 in
theorem k2_63 : Cond.methodLink "FinalityTree" 157 ⟨"FinalityTree$Items", "copyFrom", "(LFinalityTree$Items;)V"⟩ ∈ wb := wb_t2 (List.mem_of_getElem? (i := 63) rfl) rfl
set_option maxRecDepth 20000 in
theorem k2_64 : Cond.instanceMethod ⟨"FinalityTree$Items", "copyFrom", "(LFinalityTree$Items;)V"⟩ ∈ wb := wb_t2 (List.mem_of_getElem? (i := 64) rfl) rfl
set_option maxRecDepth 20000 in
theorem k2_65 : Cond.selects "FinalityTree$Items" ⟨"FinalityTree$Items", "copyFrom", "(LFinalityTree$Items;)V"⟩ ⟨"FinalityTree$Items", "copyFrom", "(LFinalityTree$Items;)V"⟩ ∈ wb := wb_t2 (List.mem_of_getElem? (i := 65) rfl) rfl
set_option maxRecDepth 20000 in
theorem k2_66 : Cond.code ⟨"FinalityTree$Items", "copyFrom", "(LFinalityTree$Items;)V"⟩ prog_3_method_3_code 2 none ∈ wb := wb_t2 (List.mem_of_getElem? (i := 66) rfl) rfl
set_option maxRecDepth 20000 in
theorem k2_67 : Cond.methodLink "FinalityTree$Items" 22 ⟨"java/lang/System", "arraycopy", "(Ljava/lang/Object;ILjava/lang/Object;II)V"⟩ ∈ wb := wb_t2 (List.mem_of_getElem? (i := 67) rfl) rfl
set_option maxRecDepth 20000 in
theorem k2_68 : Cond.methodLink "FinalityTreeLaw" 45 ⟨"FinalityTree", "block", "(II)I"⟩ ∈ wb := wb_t2 (List.mem_of_getElem? (i := 68) rfl) rfl
set_option maxRecDepth 20000 in
theorem k2_69 : Cond.instanceMethod ⟨"FinalityTree", "block", "(II)I"⟩ ∈ wb := wb_t2 (List.mem_of_getElem? (i := 69) rfl) rfl
set_option maxRecDepth 20000 in
theorem k2_70 : Cond.selects "FinalityTree" ⟨"FinalityTree", "block", "(II)I"⟩ ⟨"FinalityTree", "block", "(II)I"⟩ ∈ wb := wb_t2 (List.mem_of_getElem? (i := 70) rfl) rfl
set_option maxRecDepth 20000 in
theorem k2_71 : Cond.code ⟨"FinalityTree", "block", "(II)I"⟩ prog_1_method_7_code 4 (some .int) ∈ wb := wb_t2 (List.mem_of_getElem? (i := 71) rfl) rfl
set_option maxRecDepth 20000 in
theorem k2_72 : Cond.methodLink "FinalityTree" 160 ⟨"FinalityTree", "blockOf", "(I)I"⟩ ∈ wb := wb_t2 (List.mem_of_getElem? (i := 72) rfl) rfl
set_option maxRecDepth 20000 in
theorem k2_73 : Cond.static ⟨"FinalityTree", "blockOf", "(I)I"⟩ ∈ wb := wb_t2 (List.mem_of_getElem? (i := 73) rfl) rfl
set_option maxRecDepth 20000 in
theorem k2_74 : Cond.code ⟨"FinalityTree", "blockOf", "(I)I"⟩ prog_1_method_27_code 1 (some .int) ∈ wb := wb_t2 (List.mem_of_getElem? (i := 74) rfl) rfl
set_option maxRecDepth 20000 in
theorem k2_75 : Cond.methodLink "FinalityTreeLaw" 49 ⟨"FinalityTree", "balance", "(II)I"⟩ ∈ wb := wb_t2 (List.mem_of_getElem? (i := 75) rfl) rfl
set_option maxRecDepth 20000 in
theorem k2_76 : Cond.instanceMethod ⟨"FinalityTree", "balance", "(II)I"⟩ ∈ wb := wb_t2 (List.mem_of_getElem? (i := 76) rfl) rfl
set_option maxRecDepth 20000 in
theorem k2_77 : Cond.selects "FinalityTree" ⟨"FinalityTree", "balance", "(II)I"⟩ ⟨"FinalityTree", "balance", "(II)I"⟩ ∈ wb := wb_t2 (List.mem_of_getElem? (i := 77) rfl) rfl
set_option maxRecDepth 20000 in
theorem k2_78 : Cond.code ⟨"FinalityTree", "balance", "(II)I"⟩ prog_1_method_8_code 3 (some .int) ∈ wb := wb_t2 (List.mem_of_getElem? (i := 78) rfl) rfl
set_option maxRecDepth 20000 in
theorem k2_79 : Cond.methodLink "FinalityTreeLaw" 53 ⟨"FinalityTree", "punished", "(II)Z"⟩ ∈ wb := wb_t2 (List.mem_of_getElem? (i := 79) rfl) rfl
set_option maxRecDepth 20000 in
theorem k2_80 : Cond.instanceMethod ⟨"FinalityTree", "punished", "(II)Z"⟩ ∈ wb := wb_t2 (List.mem_of_getElem? (i := 80) rfl) rfl
set_option maxRecDepth 20000 in
theorem k2_81 : Cond.selects "FinalityTree" ⟨"FinalityTree", "punished", "(II)Z"⟩ ⟨"FinalityTree", "punished", "(II)Z"⟩ ∈ wb := wb_t2 (List.mem_of_getElem? (i := 81) rfl) rfl
set_option maxRecDepth 20000 in
theorem k2_82 : Cond.code ⟨"FinalityTree", "punished", "(II)Z"⟩ prog_1_method_9_code 3 (some .boolean) ∈ wb := wb_t2 (List.mem_of_getElem? (i := 82) rfl) rfl
set_option maxRecDepth 20000 in
theorem k2_83 : Cond.methodLink "FinalityTreeLaw" 58 ⟨"FinalityTree", "counted", "(II)I"⟩ ∈ wb := wb_t2 (List.mem_of_getElem? (i := 83) rfl) rfl
set_option maxRecDepth 20000 in
theorem k2_84 : Cond.instanceMethod ⟨"FinalityTree", "counted", "(II)I"⟩ ∈ wb := wb_t2 (List.mem_of_getElem? (i := 84) rfl) rfl
set_option maxRecDepth 20000 in
theorem k2_85 : Cond.selects "FinalityTree" ⟨"FinalityTree", "counted", "(II)I"⟩ ⟨"FinalityTree", "counted", "(II)I"⟩ ∈ wb := wb_t2 (List.mem_of_getElem? (i := 85) rfl) rfl
set_option maxRecDepth 20000 in
theorem k2_86 : Cond.code ⟨"FinalityTree", "counted", "(II)I"⟩ prog_1_method_10_code 3 (some .int) ∈ wb := wb_t2 (List.mem_of_getElem? (i := 86) rfl) rfl
set_option maxRecDepth 20000 in
theorem k2_87 : Cond.methodLink "FinalityTreeLaw" 62 ⟨"FinalityTree", "ballot", "(II)I"⟩ ∈ wb := wb_t2 (List.mem_of_getElem? (i := 87) rfl) rfl
set_option maxRecDepth 20000 in
theorem k2_88 : Cond.instanceMethod ⟨"FinalityTree", "ballot", "(II)I"⟩ ∈ wb := wb_t2 (List.mem_of_getElem? (i := 88) rfl) rfl
set_option maxRecDepth 20000 in
theorem k2_89 : Cond.selects "FinalityTree" ⟨"FinalityTree", "ballot", "(II)I"⟩ ⟨"FinalityTree", "ballot", "(II)I"⟩ ∈ wb := wb_t2 (List.mem_of_getElem? (i := 89) rfl) rfl
set_option maxRecDepth 20000 in
theorem k2_90 : Cond.code ⟨"FinalityTree", "ballot", "(II)I"⟩ prog_1_method_11_code 4 (some .int) ∈ wb := wb_t2 (List.mem_of_getElem? (i := 90) rfl) rfl
set_option maxRecDepth 20000 in
theorem k2_91 : Cond.methodLink "FinalityTreeLaw" 66 ⟨"FinalityTree", "give", "(II)Z"⟩ ∈ wb := wb_t2 (List.mem_of_getElem? (i := 91) rfl) rfl
set_option maxRecDepth 20000 in
theorem k2_92 : Cond.instanceMethod ⟨"FinalityTree", "give", "(II)Z"⟩ ∈ wb := wb_t2 (List.mem_of_getElem? (i := 92) rfl) rfl
set_option maxRecDepth 20000 in
theorem k2_93 : Cond.selects "FinalityTree" ⟨"FinalityTree", "give", "(II)Z"⟩ ⟨"FinalityTree", "give", "(II)Z"⟩ ∈ wb := wb_t2 (List.mem_of_getElem? (i := 93) rfl) rfl
set_option maxRecDepth 20000 in
theorem k2_94 : Cond.code ⟨"FinalityTree", "give", "(II)Z"⟩ prog_1_method_12_code 5 (some .boolean) ∈ wb := wb_t2 (List.mem_of_getElem? (i := 94) rfl) rfl
set_option maxRecDepth 20000 in
theorem k2_95 : Cond.methodLink "FinalityTree" 175 ⟨"FinalityTree", "isNode", "(I)Z"⟩ ∈ wb := wb_t2 (List.mem_of_getElem? (i := 95) rfl) rfl
set_option maxRecDepth 20000 in
theorem k2_96 : Cond.static ⟨"FinalityTree", "isNode", "(I)Z"⟩ ∈ wb := wb_t2 (List.mem_of_getElem? (i := 96) rfl) rfl
set_option maxRecDepth 20000 in
theorem k2_97 : Cond.code ⟨"FinalityTree", "isNode", "(I)Z"⟩ prog_1_method_23_code 1 (some .boolean) ∈ wb := wb_t2 (List.mem_of_getElem? (i := 97) rfl) rfl
set_option maxRecDepth 20000 in
theorem k2_98 : Cond.methodLink "FinalityTree" 178 ⟨"FinalityTree$Node", "isKnown", "(I)Z"⟩ ∈ wb := wb_t2 (List.mem_of_getElem? (i := 98) rfl) rfl
set_option maxRecDepth 20000 in
theorem k2_99 : Cond.instanceMethod ⟨"FinalityTree$Node", "isKnown", "(I)Z"⟩ ∈ wb := wb_t2 (List.mem_of_getElem? (i := 99) rfl) rfl
set_option maxRecDepth 20000 in
theorem k2_100 : Cond.selects "FinalityTree$Node" ⟨"FinalityTree$Node", "isKnown", "(I)Z"⟩ ⟨"FinalityTree$Node", "isKnown", "(I)Z"⟩ ∈ wb := wb_t2 (List.mem_of_getElem? (i := 100) rfl) rfl
set_option maxRecDepth 20000 in
theorem k2_101 : Cond.code ⟨"FinalityTree$Node", "isKnown", "(I)Z"⟩ prog_4_method_2_code 2 (some .boolean) ∈ wb := wb_t2 (List.mem_of_getElem? (i := 101) rfl) rfl
set_option maxRecDepth 20000 in
theorem k2_102 : Cond.methodLink "FinalityTree" 184 ⟨"FinalityTree", "takeInVotes", "(LFinalityTree$Node;LFinalityTree$Items;)V"⟩ ∈ wb := wb_t2 (List.mem_of_getElem? (i := 102) rfl) rfl
set_option maxRecDepth 20000 in
theorem k2_104 : Cond.instanceMethod ⟨"FinalityTree", "takeInVotes", "(LFinalityTree$Node;LFinalityTree$Items;)V"⟩ ∈ wb := wb_t2 (List.mem_of_getElem? (i := 104) rfl) rfl
set_option maxRecDepth 20000 in
theorem k2_105 : Cond.code ⟨"FinalityTree", "takeInVotes", "(LFinalityTree$Node;LFinalityTree$Items;)V"⟩ prog_1_method_36_code 4 none ∈ wb := wb_t2 (List.mem_of_getElem? (i := 105) rfl) rfl
set_option maxRecDepth 20000 in
theorem k2_106 : Cond.methodLink "FinalityTree" 196 ⟨"FinalityTree", "takeInVote", "(LFinalityTree$Node;I)V"⟩ ∈ wb := wb_t2 (List.mem_of_getElem? (i := 106) rfl) rfl
set_option maxRecDepth 20000 in
theorem k2_108 : Cond.instanceMethod ⟨"FinalityTree", "takeInVote", "(LFinalityTree$Node;I)V"⟩ ∈ wb := wb_t2 (List.mem_of_getElem? (i := 108) rfl) rfl
set_option maxRecDepth 20000 in
theorem k2_109 : Cond.code ⟨"FinalityTree", "takeInVote", "(LFinalityTree$Node;I)V"⟩ prog_1_method_37_code 5 none ∈ wb := wb_t2 (List.mem_of_getElem? (i := 109) rfl) rfl
set_option maxRecDepth 20000 in
theorem k2_110 : Cond.methodLink "FinalityTree" 188 ⟨"FinalityTree", "takeInCheckpoints", "(LFinalityTree$Node;LFinalityTree$State;)V"⟩ ∈ wb := wb_t2 (List.mem_of_getElem? (i := 110) rfl) rfl
set_option maxRecDepth 20000 in
theorem k2_112 : Cond.instanceMethod ⟨"FinalityTree", "takeInCheckpoints", "(LFinalityTree$Node;LFinalityTree$State;)V"⟩ ∈ wb := wb_t2 (List.mem_of_getElem? (i := 112) rfl) rfl
set_option maxRecDepth 20000 in
theorem k2_113 : Cond.code ⟨"FinalityTree", "takeInCheckpoints", "(LFinalityTree$Node;LFinalityTree$State;)V"⟩ prog_1_method_38_code 4 none ∈ wb := wb_t2 (List.mem_of_getElem? (i := 113) rfl) rfl
set_option maxRecDepth 20000 in
theorem k2_114 : Cond.methodLink "FinalityTree" 242 ⟨"FinalityTree", "forgetBeside", "(LFinalityTree$Node;I)V"⟩ ∈ wb := wb_t2 (List.mem_of_getElem? (i := 114) rfl) rfl
set_option maxRecDepth 20000 in
theorem k2_116 : Cond.instanceMethod ⟨"FinalityTree", "forgetBeside", "(LFinalityTree$Node;I)V"⟩ ∈ wb := wb_t2 (List.mem_of_getElem? (i := 116) rfl) rfl
set_option maxRecDepth 20000 in
theorem k2_117 : Cond.code ⟨"FinalityTree", "forgetBeside", "(LFinalityTree$Node;I)V"⟩ prog_1_method_39_code 4 none ∈ wb := wb_t2 (List.mem_of_getElem? (i := 117) rfl) rfl
set_option maxRecDepth 20000 in
theorem k2_118 : Cond.constantLong "FinalityTree" 245 (-1) ∈ wb := wb_t2 (List.mem_of_getElem? (i := 118) rfl) rfl
set_option maxRecDepth 20000 in
theorem k2_119 : Cond.methodLink "FinalityTreeLaw" 70 ⟨"FinalityTree", "hear", "(II)Z"⟩ ∈ wb := wb_t2 (List.mem_of_getElem? (i := 119) rfl) rfl
set_option maxRecDepth 20000 in
theorem k2_120 : Cond.instanceMethod ⟨"FinalityTree", "hear", "(II)Z"⟩ ∈ wb := wb_t2 (List.mem_of_getElem? (i := 120) rfl) rfl
set_option maxRecDepth 20000 in
theorem k2_121 : Cond.selects "FinalityTree" ⟨"FinalityTree", "hear", "(II)Z"⟩ ⟨"FinalityTree", "hear", "(II)Z"⟩ ∈ wb := wb_t2 (List.mem_of_getElem? (i := 121) rfl) rfl
set_option maxRecDepth 20000 in
theorem k2_122 : Cond.code ⟨"FinalityTree", "hear", "(II)Z"⟩ prog_1_method_13_code 3 (some .boolean) ∈ wb := wb_t2 (List.mem_of_getElem? (i := 122) rfl) rfl
set_option maxRecDepth 20000 in
theorem k2_123 : Cond.methodLink "FinalityTreeLaw" 74 ⟨"FinalityTree", "knows", "(II)Z"⟩ ∈ wb := wb_t2 (List.mem_of_getElem? (i := 123) rfl) rfl
set_option maxRecDepth 20000 in
theorem k2_124 : Cond.instanceMethod ⟨"FinalityTree", "knows", "(II)Z"⟩ ∈ wb := wb_t2 (List.mem_of_getElem? (i := 124) rfl) rfl
set_option maxRecDepth 20000 in
theorem k2_125 : Cond.selects "FinalityTree" ⟨"FinalityTree", "knows", "(II)Z"⟩ ⟨"FinalityTree", "knows", "(II)Z"⟩ ∈ wb := wb_t2 (List.mem_of_getElem? (i := 125) rfl) rfl
set_option maxRecDepth 20000 in
theorem k2_126 : Cond.code ⟨"FinalityTree", "knows", "(II)Z"⟩ prog_1_method_14_code 3 (some .boolean) ∈ wb := wb_t2 (List.mem_of_getElem? (i := 126) rfl) rfl
set_option maxRecDepth 20000 in
theorem k2_127 : Cond.methodLink "FinalityTreeLaw" 78 ⟨"FinalityTree", "head", "(I)I"⟩ ∈ wb := wb_t2 (List.mem_of_getElem? (i := 127) rfl) rfl
set_option maxRecDepth 20000 in
theorem k2_128 : Cond.instanceMethod ⟨"FinalityTree", "head", "(I)I"⟩ ∈ wb := wb_t2 (List.mem_of_getElem? (i := 128) rfl) rfl
set_option maxRecDepth 20000 in
theorem k2_129 : Cond.selects "FinalityTree" ⟨"FinalityTree", "head", "(I)I"⟩ ⟨"FinalityTree", "head", "(I)I"⟩ ∈ wb := wb_t2 (List.mem_of_getElem? (i := 129) rfl) rfl
set_option maxRecDepth 20000 in
theorem k2_130 : Cond.code ⟨"FinalityTree", "head", "(I)I"⟩ prog_1_method_15_code 5 (some .int) ∈ wb := wb_t2 (List.mem_of_getElem? (i := 130) rfl) rfl
set_option maxRecDepth 20000 in
theorem k2_131 : Cond.methodLink "FinalityTree" 201 ⟨"FinalityTree", "heaviestChild", "(LFinalityTree$Node;I)I"⟩ ∈ wb := wb_t2 (List.mem_of_getElem? (i := 131) rfl) rfl
set_option maxRecDepth 20000 in
theorem k2_133 : Cond.instanceMethod ⟨"FinalityTree", "heaviestChild", "(LFinalityTree$Node;I)I"⟩ ∈ wb := wb_t2 (List.mem_of_getElem? (i := 133) rfl) rfl
set_option maxRecDepth 20000 in
theorem k2_134 : Cond.code ⟨"FinalityTree", "heaviestChild", "(LFinalityTree$Node;I)I"⟩ prog_1_method_40_code 7 (some .int) ∈ wb := wb_t2 (List.mem_of_getElem? (i := 134) rfl) rfl
set_option maxRecDepth 20000 in
theorem k2_135 : Cond.methodLink "FinalityTree" 247 ⟨"FinalityTree", "supportOf", "(LFinalityTree$Node;I)I"⟩ ∈ wb := wb_t2 (List.mem_of_getElem? (i := 135) rfl) rfl
set_option maxRecDepth 20000 in
theorem k2_137 : Cond.instanceMethod ⟨"FinalityTree", "supportOf", "(LFinalityTree$Node;I)I"⟩ ∈ wb := wb_t2 (List.mem_of_getElem? (i := 137) rfl) rfl
set_option maxRecDepth 20000 in
theorem k2_138 : Cond.code ⟨"FinalityTree", "supportOf", "(LFinalityTree$Node;I)I"⟩ prog_1_method_41_code 6 (some .int) ∈ wb := wb_t2 (List.mem_of_getElem? (i := 138) rfl) rfl
set_option maxRecDepth 20000 in
theorem k2_139 : Cond.methodLink "FinalityTreeLaw" 82 ⟨"FinalityTree", "checkpoint", "(II)I"⟩ ∈ wb := wb_t2 (List.mem_of_getElem? (i := 139) rfl) rfl
set_option maxRecDepth 20000 in
theorem k2_140 : Cond.instanceMethod ⟨"FinalityTree", "checkpoint", "(II)I"⟩ ∈ wb := wb_t2 (List.mem_of_getElem? (i := 140) rfl) rfl
set_option maxRecDepth 20000 in
theorem k2_141 : Cond.selects "FinalityTree" ⟨"FinalityTree", "checkpoint", "(II)I"⟩ ⟨"FinalityTree", "checkpoint", "(II)I"⟩ ∈ wb := wb_t2 (List.mem_of_getElem? (i := 141) rfl) rfl
set_option maxRecDepth 20000 in
theorem k2_142 : Cond.code ⟨"FinalityTree", "checkpoint", "(II)I"⟩ prog_1_method_16_code 3 (some .int) ∈ wb := wb_t2 (List.mem_of_getElem? (i := 142) rfl) rfl
set_option maxRecDepth 20000 in
theorem k2_143 : Cond.methodLink "FinalityTreeLaw" 86 ⟨"FinalityTree", "conflict", "(II)Z"⟩ ∈ wb := wb_t2 (List.mem_of_getElem? (i := 143) rfl) rfl
set_option maxRecDepth 20000 in
theorem k2_144 : Cond.instanceMethod ⟨"FinalityTree", "conflict", "(II)Z"⟩ ∈ wb := wb_t2 (List.mem_of_getElem? (i := 144) rfl) rfl
set_option maxRecDepth 20000 in
theorem k2_145 : Cond.selects "FinalityTree" ⟨"FinalityTree", "conflict", "(II)Z"⟩ ⟨"FinalityTree", "conflict", "(II)Z"⟩ ∈ wb := wb_t2 (List.mem_of_getElem? (i := 145) rfl) rfl
set_option maxRecDepth 20000 in
theorem k2_146 : Cond.code ⟨"FinalityTree", "conflict", "(II)Z"⟩ prog_1_method_17_code 5 (some .boolean) ∈ wb := wb_t2 (List.mem_of_getElem? (i := 146) rfl) rfl
set_option maxRecDepth 20000 in
theorem k2_147 : Cond.methodLink "FinalityTreeLaw" 90 ⟨"FinalityTree", "guilty", "(IZ)I"⟩ ∈ wb := wb_t2 (List.mem_of_getElem? (i := 147) rfl) rfl
set_option maxRecDepth 20000 in
theorem k2_148 : Cond.instanceMethod ⟨"FinalityTree", "guilty", "(IZ)I"⟩ ∈ wb := wb_t2 (List.mem_of_getElem? (i := 148) rfl) rfl
set_option maxRecDepth 20000 in
theorem k2_149 : Cond.selects "FinalityTree" ⟨"FinalityTree", "guilty", "(IZ)I"⟩ ⟨"FinalityTree", "guilty", "(IZ)I"⟩ ∈ wb := wb_t2 (List.mem_of_getElem? (i := 149) rfl) rfl
set_option maxRecDepth 20000 in
theorem k2_150 : Cond.code ⟨"FinalityTree", "guilty", "(IZ)I"⟩ prog_1_method_18_code 5 (some .int) ∈ wb := wb_t2 (List.mem_of_getElem? (i := 150) rfl) rfl
set_option maxRecDepth 20000 in
theorem k2_151 : Cond.methodLink "FinalityTree" 209 ⟨"FinalityTree", "lowestClash", "(IIZ)I"⟩ ∈ wb := wb_t2 (List.mem_of_getElem? (i := 151) rfl) rfl
set_option maxRecDepth 20000 in
theorem k2_153 : Cond.instanceMethod ⟨"FinalityTree", "lowestClash", "(IIZ)I"⟩ ∈ wb := wb_t2 (List.mem_of_getElem? (i := 153) rfl) rfl
set_option maxRecDepth 20000 in
theorem k2_154 : Cond.code ⟨"FinalityTree", "lowestClash", "(IIZ)I"⟩ prog_1_method_42_code 6 (some .int) ∈ wb := wb_t2 (List.mem_of_getElem? (i := 154) rfl) rfl
set_option maxRecDepth 20000 in
theorem k2_155 : Cond.methodLink "FinalityTree" 250 ⟨"FinalityTree", "isHeard", "(II)Z"⟩ ∈ wb := wb_t2 (List.mem_of_getElem? (i := 155) rfl) rfl
set_option maxRecDepth 20000 in
theorem k2_157 : Cond.instanceMethod ⟨"FinalityTree", "isHeard", "(II)Z"⟩ ∈ wb := wb_t2 (List.mem_of_getElem? (i := 157) rfl) rfl
set_option maxRecDepth 20000 in
theorem k2_158 : Cond.code ⟨"FinalityTree", "isHeard", "(II)Z"⟩ prog_1_method_43_code 4 (some .boolean) ∈ wb := wb_t2 (List.mem_of_getElem? (i := 158) rfl) rfl
set_option maxRecDepth 20000 in
theorem k2_159 : Cond.methodLink "FinalityTreeLaw" 95 ⟨"FinalityTree", "proof", "(I)I"⟩ ∈ wb := wb_t2 (List.mem_of_getElem? (i := 159) rfl) rfl
set_option maxRecDepth 20000 in
theorem k2_160 : Cond.instanceMethod ⟨"FinalityTree", "proof", "(I)I"⟩ ∈ wb := wb_t2 (List.mem_of_getElem? (i := 160) rfl) rfl
set_option maxRecDepth 20000 in
theorem k2_161 : Cond.selects "FinalityTree" ⟨"FinalityTree", "proof", "(I)I"⟩ ⟨"FinalityTree", "proof", "(I)I"⟩ ∈ wb := wb_t2 (List.mem_of_getElem? (i := 161) rfl) rfl
set_option maxRecDepth 20000 in
theorem k2_162 : Cond.code ⟨"FinalityTree", "proof", "(I)I"⟩ prog_1_method_19_code 3 (some .int) ∈ wb := wb_t2 (List.mem_of_getElem? (i := 162) rfl) rfl
set_option maxRecDepth 20000 in
theorem k2_163 : Cond.methodLink "FinalityTreeLaw" 9 ⟨"FinalityTreeLaw", "cell", "([II)I"⟩ ∈ wb := wb_t2 (List.mem_of_getElem? (i := 163) rfl) rfl
set_option maxRecDepth 20000 in
theorem k2_164 : Cond.static ⟨"FinalityTreeLaw", "cell", "([II)I"⟩ ∈ wb := wb_t2 (List.mem_of_getElem? (i := 164) rfl) rfl
set_option maxRecDepth 20000 in
theorem k2_165 : Cond.code ⟨"FinalityTreeLaw", "cell", "([II)I"⟩ method_2_code 2 (some .int) ∈ wb := wb_t2 (List.mem_of_getElem? (i := 165) rfl) rfl
set_option maxRecDepth 20000 in
theorem k2_166 : Cond.classLink "FinalityTreeLaw" 18 "FinalityTreeModel" ∈ wb := wb_t2 (List.mem_of_getElem? (i := 166) rfl) rfl
set_option maxRecDepth 20000 in
theorem k2_167 : Cond.instantiable "FinalityTreeModel" 33 ∈ wb := wb_t2 (List.mem_of_getElem? (i := 167) rfl) rfl
set_option maxRecDepth 20000 in
theorem k2_168 : Cond.methodLink "FinalityTreeLaw" 20 ⟨"FinalityTreeModel", "<init>", "(III)V"⟩ ∈ wb := wb_t2 (List.mem_of_getElem? (i := 168) rfl) rfl
set_option maxRecDepth 20000 in
theorem k2_169 : Cond.instanceMethod ⟨"FinalityTreeModel", "<init>", "(III)V"⟩ ∈ wb := wb_t2 (List.mem_of_getElem? (i := 169) rfl) rfl
set_option maxRecDepth 20000 in
theorem k2_170 : Cond.code ⟨"FinalityTreeModel", "<init>", "(III)V"⟩ prog_8_method_1_code 5 none ∈ wb := wb_t2 (List.mem_of_getElem? (i := 170) rfl) rfl
set_option maxRecDepth 20000 in
theorem k2_171 : Cond.methodLink "FinalityTreeModel" 1 ⟨"java/lang/Object", "<init>", "()V"⟩ ∈ wb := wb_t2 (List.mem_of_getElem? (i := 171) rfl) rfl
set_option maxRecDepth 20000 in
theorem k2_172 : Cond.fieldLink "FinalityTreeModel" 77 "FinalityTreeModel" "validators" "I" ∈ wb := wb_t2 (List.mem_of_getElem? (i := 172) rfl) rfl
set_option maxRecDepth 20000 in
theorem k2_173 : Cond.fieldLink "FinalityTreeModel" 81 "FinalityTreeModel" "length" "I" ∈ wb := wb_t2 (List.mem_of_getElem? (i := 173) rfl) rfl
set_option maxRecDepth 20000 in
theorem k2_174 : Cond.fieldLink "FinalityTreeModel" 7 "FinalityTreeModel" "weights" "[I" ∈ wb := wb_t2 (List.mem_of_getElem? (i := 174) rfl) rfl
set_option maxRecDepth 20000 in
theorem k2_175 : Cond.fieldLink "FinalityTreeModel" 84 "FinalityTreeModel" "total" "I" ∈ wb := wb_t2 (List.mem_of_getElem? (i := 175) rfl) rfl
set_option maxRecDepth 20000 in
theorem k2_176 : Cond.fieldLink "FinalityTreeModel" 87 "FinalityTreeModel" "blocks" "I" ∈ wb := wb_t2 (List.mem_of_getElem? (i := 176) rfl) rfl
set_option maxRecDepth 20000 in
theorem k2_177 : Cond.fieldLink "FinalityTreeModel" 13 "FinalityTreeModel" "parent" "[I" ∈ wb := wb_t2 (List.mem_of_getElem? (i := 177) rfl) rfl
set_option maxRecDepth 20000 in
theorem k2_178 : Cond.fieldLink "FinalityTreeModel" 16 "FinalityTreeModel" "slot" "[I" ∈ wb := wb_t2 (List.mem_of_getElem? (i := 178) rfl) rfl
set_option maxRecDepth 20000 in
theorem k2_179 : Cond.fieldLink "FinalityTreeModel" 19 "FinalityTreeModel" "itemCount" "[I" ∈ wb := wb_t2 (List.mem_of_getElem? (i := 179) rfl) rfl
set_option maxRecDepth 20000 in
theorem k2_180 : Cond.fieldLink "FinalityTreeModel" 22 "FinalityTreeModel" "items" "[I" ∈ wb := wb_t2 (List.mem_of_getElem? (i := 180) rfl) rfl
set_option maxRecDepth 20000 in
theorem k2_181 : Cond.fieldLink "FinalityTreeModel" 150 "FinalityTreeModel" "nextCount" "I" ∈ wb := wb_t2 (List.mem_of_getElem? (i := 181) rfl) rfl
set_option maxRecDepth 20000 in
theorem k2_182 : Cond.fieldLink "FinalityTreeModel" 25 "FinalityTreeModel" "nextItems" "[I" ∈ wb := wb_t2 (List.mem_of_getElem? (i := 182) rfl) rfl
set_option maxRecDepth 20000 in
theorem k2_183 : Cond.fieldLink "FinalityTreeModel" 90 "FinalityTreeModel" "votes" "I" ∈ wb := wb_t2 (List.mem_of_getElem? (i := 183) rfl) rfl
set_option maxRecDepth 20000 in
theorem k2_184 : Cond.fieldLink "FinalityTreeModel" 28 "FinalityTreeModel" "voter" "[I" ∈ wb := wb_t2 (List.mem_of_getElem? (i := 184) rfl) rfl
set_option maxRecDepth 20000 in
theorem k2_185 : Cond.fieldLink "FinalityTreeModel" 31 "FinalityTreeModel" "voteSlot" "[I" ∈ wb := wb_t2 (List.mem_of_getElem? (i := 185) rfl) rfl
set_option maxRecDepth 20000 in
theorem k2_186 : Cond.fieldLink "FinalityTreeModel" 34 "FinalityTreeModel" "voteHead" "[I" ∈ wb := wb_t2 (List.mem_of_getElem? (i := 186) rfl) rfl
set_option maxRecDepth 20000 in
theorem k2_187 : Cond.fieldLink "FinalityTreeModel" 37 "FinalityTreeModel" "sourceEpoch" "[I" ∈ wb := wb_t2 (List.mem_of_getElem? (i := 187) rfl) rfl
set_option maxRecDepth 20000 in
theorem k2_188 : Cond.fieldLink "FinalityTreeModel" 40 "FinalityTreeModel" "sourceBlock" "[I" ∈ wb := wb_t2 (List.mem_of_getElem? (i := 188) rfl) rfl
set_option maxRecDepth 20000 in
theorem k2_189 : Cond.fieldLink "FinalityTreeModel" 43 "FinalityTreeModel" "targetEpoch" "[I" ∈ wb := wb_t2 (List.mem_of_getElem? (i := 189) rfl) rfl
set_option maxRecDepth 20000 in
theorem k2_190 : Cond.fieldLink "FinalityTreeModel" 46 "FinalityTreeModel" "targetBlock" "[I" ∈ wb := wb_t2 (List.mem_of_getElem? (i := 190) rfl) rfl
set_option maxRecDepth 20000 in
theorem k2_191 : Cond.fieldLink "FinalityTreeModel" 49 "FinalityTreeModel" "known" "[Z" ∈ wb := wb_t2 (List.mem_of_getElem? (i := 191) rfl) rfl
set_option maxRecDepth 20000 in
theorem k2_192 : Cond.fieldLink "FinalityTreeModel" 53 "FinalityTreeModel" "heard" "[Z" ∈ wb := wb_t2 (List.mem_of_getElem? (i := 192) rfl) rfl
set_option maxRecDepth 20000 in
theorem k2_193 : Cond.fieldLink "FinalityTreeModel" 56 "FinalityTreeModel" "nodeEpoch" "[I" ∈ wb := wb_t2 (List.mem_of_getElem? (i := 193) rfl) rfl
set_option maxRecDepth 20000 in
theorem k2_194 : Cond.fieldLink "FinalityTreeModel" 59 "FinalityTreeModel" "nodeBlock" "[I" ∈ wb := wb_t2 (List.mem_of_getElem? (i := 194) rfl) rfl
set_option maxRecDepth 20000 in
theorem k2_195 : Cond.fieldLink "FinalityTreeModel" 93 "FinalityTreeModel" "epoch" "I" ∈ wb := wb_t2 (List.mem_of_getElem? (i := 195) rfl) rfl
set_option maxRecDepth 20000 in
theorem k2_196 : Cond.fieldLink "FinalityTreeModel" 62 "FinalityTreeModel" "balances" "[I" ∈ wb := wb_t2 (List.mem_of_getElem? (i := 196) rfl) rfl
set_option maxRecDepth 20000 in
theorem k2_197 : Cond.fieldLink "FinalityTreeModel" 65 "FinalityTreeModel" "struck" "[Z" ∈ wb := wb_t2 (List.mem_of_getElem? (i := 197) rfl) rfl
set_option maxRecDepth 20000 in
theorem k2_198 : Cond.fieldLink "FinalityTreeModel" 68 "FinalityTreeModel" "now" "[Z" ∈ wb := wb_t2 (List.mem_of_getElem? (i := 198) rfl) rfl
set_option maxRecDepth 20000 in
theorem k2_199 : Cond.fieldLink "FinalityTreeModel" 71 "FinalityTreeModel" "before" "[Z" ∈ wb := wb_t2 (List.mem_of_getElem? (i := 199) rfl) rfl
set_option maxRecDepth 20000 in
theorem k2_200 : Cond.fieldLink "FinalityTreeModel" 96 "FinalityTreeModel" "justEpoch" "I" ∈ wb := wb_t2 (List.mem_of_getElem? (i := 200) rfl) rfl
set_option maxRecDepth 20000 in
theorem k2_201 : Cond.fieldLink "FinalityTreeModel" 99 "FinalityTreeModel" "justBlock" "I" ∈ wb := wb_t2 (List.mem_of_getElem? (i := 201) rfl) rfl
set_option maxRecDepth 20000 in
theorem k2_202 : Cond.fieldLink "FinalityTreeModel" 102 "FinalityTreeModel" "finalEpoch" "I" ∈ wb := wb_t2 (List.mem_of_getElem? (i := 202) rfl) rfl
set_option maxRecDepth 20000 in
theorem k2_203 : Cond.fieldLink "FinalityTreeModel" 105 "FinalityTreeModel" "finalBlock" "I" ∈ wb := wb_t2 (List.mem_of_getElem? (i := 203) rfl) rfl
set_option maxRecDepth 20000 in
theorem k2_204 : Cond.fieldLink "FinalityTreeModel" 74 "FinalityTreeModel" "chain" "[I" ∈ wb := wb_t2 (List.mem_of_getElem? (i := 204) rfl) rfl
set_option maxRecDepth 20000 in
theorem k2_205 : Cond.laysFinal "FinalityTreeModel" "FinalityTreeModel" "validators" "I" ∈ wb := wb_t2 (List.mem_of_getElem? (i := 205) rfl) rfl
set_option maxRecDepth 20000 in
theorem k2_207 : Cond.laysFinal "FinalityTreeModel" "FinalityTreeModel" "length" "I" ∈ wb := wb_t2 (List.mem_of_getElem? (i := 207) rfl) rfl
set_option maxRecDepth 20000 in
theorem k2_209 : Cond.laysFinal "FinalityTreeModel" "FinalityTreeModel" "weights" "[I" ∈ wb := wb_t2 (List.mem_of_getElem? (i := 209) rfl) rfl
set_option maxRecDepth 20000 in
theorem k2_211 : Cond.lays "FinalityTreeModel" "FinalityTreeModel" "total" "I" ∈ wb := wb_t2 (List.mem_of_getElem? (i := 211) rfl) rfl
set_option maxRecDepth 20000 in
theorem k2_213 : Cond.lays "FinalityTreeModel" "FinalityTreeModel" "blocks" "I" ∈ wb := wb_t2 (List.mem_of_getElem? (i := 213) rfl) rfl
set_option maxRecDepth 20000 in
theorem k2_215 : Cond.laysFinal "FinalityTreeModel" "FinalityTreeModel" "parent" "[I" ∈ wb := wb_t2 (List.mem_of_getElem? (i := 215) rfl) rfl
set_option maxRecDepth 20000 in
theorem k2_217 : Cond.laysFinal "FinalityTreeModel" "FinalityTreeModel" "slot" "[I" ∈ wb := wb_t2 (List.mem_of_getElem? (i := 217) rfl) rfl
set_option maxRecDepth 20000 in
theorem k2_219 : Cond.laysFinal "FinalityTreeModel" "FinalityTreeModel" "itemCount" "[I" ∈ wb := wb_t2 (List.mem_of_getElem? (i := 219) rfl) rfl
set_option maxRecDepth 20000 in
theorem k2_221 : Cond.laysFinal "FinalityTreeModel" "FinalityTreeModel" "items" "[I" ∈ wb := wb_t2 (List.mem_of_getElem? (i := 221) rfl) rfl
set_option maxRecDepth 20000 in
theorem k2_223 : Cond.lays "FinalityTreeModel" "FinalityTreeModel" "nextCount" "I" ∈ wb := wb_t2 (List.mem_of_getElem? (i := 223) rfl) rfl
set_option maxRecDepth 20000 in
theorem k2_225 : Cond.laysFinal "FinalityTreeModel" "FinalityTreeModel" "nextItems" "[I" ∈ wb := wb_t2 (List.mem_of_getElem? (i := 225) rfl) rfl
set_option maxRecDepth 20000 in
theorem k2_227 : Cond.lays "FinalityTreeModel" "FinalityTreeModel" "votes" "I" ∈ wb := wb_t2 (List.mem_of_getElem? (i := 227) rfl) rfl
set_option maxRecDepth 20000 in
theorem k2_229 : Cond.laysFinal "FinalityTreeModel" "FinalityTreeModel" "voter" "[I" ∈ wb := wb_t2 (List.mem_of_getElem? (i := 229) rfl) rfl
set_option maxRecDepth 20000 in
theorem k2_231 : Cond.laysFinal "FinalityTreeModel" "FinalityTreeModel" "voteSlot" "[I" ∈ wb := wb_t2 (List.mem_of_getElem? (i := 231) rfl) rfl
set_option maxRecDepth 20000 in
theorem k2_233 : Cond.laysFinal "FinalityTreeModel" "FinalityTreeModel" "voteHead" "[I" ∈ wb := wb_t2 (List.mem_of_getElem? (i := 233) rfl) rfl
set_option maxRecDepth 20000 in
theorem k2_235 : Cond.laysFinal "FinalityTreeModel" "FinalityTreeModel" "sourceEpoch" "[I" ∈ wb := wb_t2 (List.mem_of_getElem? (i := 235) rfl) rfl
set_option maxRecDepth 20000 in
theorem k2_237 : Cond.laysFinal "FinalityTreeModel" "FinalityTreeModel" "sourceBlock" "[I" ∈ wb := wb_t2 (List.mem_of_getElem? (i := 237) rfl) rfl
set_option maxRecDepth 20000 in
theorem k2_239 : Cond.laysFinal "FinalityTreeModel" "FinalityTreeModel" "targetEpoch" "[I" ∈ wb := wb_t2 (List.mem_of_getElem? (i := 239) rfl) rfl
set_option maxRecDepth 20000 in
theorem k3_1 : Cond.laysFinal "FinalityTreeModel" "FinalityTreeModel" "targetBlock" "[I" ∈ wb := wb_t3 (List.mem_of_getElem? (i := 1) rfl) rfl
set_option maxRecDepth 20000 in
theorem k3_3 : Cond.laysFinal "FinalityTreeModel" "FinalityTreeModel" "known" "[Z" ∈ wb := wb_t3 (List.mem_of_getElem? (i := 3) rfl) rfl
set_option maxRecDepth 20000 in
theorem k3_5 : Cond.laysFinal "FinalityTreeModel" "FinalityTreeModel" "heard" "[Z" ∈ wb := wb_t3 (List.mem_of_getElem? (i := 5) rfl) rfl
set_option maxRecDepth 20000 in
theorem k3_7 : Cond.laysFinal "FinalityTreeModel" "FinalityTreeModel" "nodeEpoch" "[I" ∈ wb := wb_t3 (List.mem_of_getElem? (i := 7) rfl) rfl
set_option maxRecDepth 20000 in
theorem k3_9 : Cond.laysFinal "FinalityTreeModel" "FinalityTreeModel" "nodeBlock" "[I" ∈ wb := wb_t3 (List.mem_of_getElem? (i := 9) rfl) rfl
set_option maxRecDepth 20000 in
theorem k3_11 : Cond.lays "FinalityTreeModel" "FinalityTreeModel" "epoch" "I" ∈ wb := wb_t3 (List.mem_of_getElem? (i := 11) rfl) rfl
set_option maxRecDepth 20000 in
theorem k3_13 : Cond.laysFinal "FinalityTreeModel" "FinalityTreeModel" "balances" "[I" ∈ wb := wb_t3 (List.mem_of_getElem? (i := 13) rfl) rfl
set_option maxRecDepth 20000 in
theorem k3_15 : Cond.laysFinal "FinalityTreeModel" "FinalityTreeModel" "struck" "[Z" ∈ wb := wb_t3 (List.mem_of_getElem? (i := 15) rfl) rfl
set_option maxRecDepth 20000 in
theorem k3_17 : Cond.laysFinal "FinalityTreeModel" "FinalityTreeModel" "now" "[Z" ∈ wb := wb_t3 (List.mem_of_getElem? (i := 17) rfl) rfl
set_option maxRecDepth 20000 in
theorem k3_19 : Cond.laysFinal "FinalityTreeModel" "FinalityTreeModel" "before" "[Z" ∈ wb := wb_t3 (List.mem_of_getElem? (i := 19) rfl) rfl
set_option maxRecDepth 20000 in
theorem k3_21 : Cond.lays "FinalityTreeModel" "FinalityTreeModel" "justEpoch" "I" ∈ wb := wb_t3 (List.mem_of_getElem? (i := 21) rfl) rfl
set_option maxRecDepth 20000 in
theorem k3_23 : Cond.lays "FinalityTreeModel" "FinalityTreeModel" "justBlock" "I" ∈ wb := wb_t3 (List.mem_of_getElem? (i := 23) rfl) rfl
set_option maxRecDepth 20000 in
theorem k3_25 : Cond.lays "FinalityTreeModel" "FinalityTreeModel" "finalEpoch" "I" ∈ wb := wb_t3 (List.mem_of_getElem? (i := 25) rfl) rfl
set_option maxRecDepth 20000 in
theorem k3_27 : Cond.lays "FinalityTreeModel" "FinalityTreeModel" "finalBlock" "I" ∈ wb := wb_t3 (List.mem_of_getElem? (i := 27) rfl) rfl
set_option maxRecDepth 20000 in
theorem k3_29 : Cond.laysFinal "FinalityTreeModel" "FinalityTreeModel" "chain" "[I" ∈ wb := wb_t3 (List.mem_of_getElem? (i := 29) rfl) rfl
set_option maxRecDepth 20000 in
theorem k3_32 : Cond.methodLink "FinalityTreeLaw" 25 ⟨"FinalityTreeModel", "vote", "(III)I"⟩ ∈ wb := wb_t3 (List.mem_of_getElem? (i := 32) rfl) rfl
set_option maxRecDepth 20000 in
theorem k3_33 : Cond.instanceMethod ⟨"FinalityTreeModel", "vote", "(III)I"⟩ ∈ wb := wb_t3 (List.mem_of_getElem? (i := 33) rfl) rfl
set_option maxRecDepth 20000 in
theorem k3_34 : Cond.selects "FinalityTreeModel" ⟨"FinalityTreeModel", "vote", "(III)I"⟩ ⟨"FinalityTreeModel", "vote", "(III)I"⟩ ∈ wb := wb_t3 (List.mem_of_getElem? (i := 34) rfl) rfl
set_option maxRecDepth 20000 in
theorem k3_35 : Cond.code ⟨"FinalityTreeModel", "vote", "(III)I"⟩ prog_8_method_18_code 8 (some .int) ∈ wb := wb_t3 (List.mem_of_getElem? (i := 35) rfl) rfl
set_option maxRecDepth 20000 in
theorem k3_36 : Cond.methodLink "FinalityTreeModel" 137 ⟨"FinalityTreeModel", "isValidator", "(I)Z"⟩ ∈ wb := wb_t3 (List.mem_of_getElem? (i := 36) rfl) rfl
set_option maxRecDepth 20000 in
theorem k3_38 : Cond.instanceMethod ⟨"FinalityTreeModel", "isValidator", "(I)Z"⟩ ∈ wb := wb_t3 (List.mem_of_getElem? (i := 38) rfl) rfl
set_option maxRecDepth 20000 in
theorem k3_39 : Cond.code ⟨"FinalityTreeModel", "isValidator", "(I)Z"⟩ prog_8_method_5_code 2 (some .boolean) ∈ wb := wb_t3 (List.mem_of_getElem? (i := 39) rfl) rfl
set_option maxRecDepth 20000 in
theorem k3_40 : Cond.methodLink "FinalityTreeModel" 141 ⟨"FinalityTreeModel", "isBlock", "(I)Z"⟩ ∈ wb := wb_t3 (List.mem_of_getElem? (i := 40) rfl) rfl
set_option maxRecDepth 20000 in
theorem k3_42 : Cond.instanceMethod ⟨"FinalityTreeModel", "isBlock", "(I)Z"⟩ ∈ wb := wb_t3 (List.mem_of_getElem? (i := 42) rfl) rfl
set_option maxRecDepth 20000 in
theorem k3_43 : Cond.code ⟨"FinalityTreeModel", "isBlock", "(I)Z"⟩ prog_8_method_3_code 2 (some .boolean) ∈ wb := wb_t3 (List.mem_of_getElem? (i := 43) rfl) rfl
set_option maxRecDepth 20000 in
theorem k3_44 : Cond.methodLink "FinalityTreeModel" 144 ⟨"FinalityTreeModel", "outside", "(III)Z"⟩ ∈ wb := wb_t3 (List.mem_of_getElem? (i := 44) rfl) rfl
set_option maxRecDepth 20000 in
theorem k3_45 : Cond.static ⟨"FinalityTreeModel", "outside", "(III)Z"⟩ ∈ wb := wb_t3 (List.mem_of_getElem? (i := 45) rfl) rfl
set_option maxRecDepth 20000 in
theorem k3_46 : Cond.code ⟨"FinalityTreeModel", "outside", "(III)Z"⟩ prog_8_method_2_code 3 (some .boolean) ∈ wb := wb_t3 (List.mem_of_getElem? (i := 46) rfl) rfl
set_option maxRecDepth 20000 in
theorem k3_47 : Cond.methodLink "FinalityTreeModel" 147 ⟨"FinalityTreeModel", "make", "(I)V"⟩ ∈ wb := wb_t3 (List.mem_of_getElem? (i := 47) rfl) rfl
set_option maxRecDepth 20000 in
theorem k3_49 : Cond.instanceMethod ⟨"FinalityTreeModel", "make", "(I)V"⟩ ∈ wb := wb_t3 (List.mem_of_getElem? (i := 49) rfl) rfl
set_option maxRecDepth 20000 in
theorem k3_50 : Cond.code ⟨"FinalityTreeModel", "make", "(I)V"⟩ prog_8_method_17_code 6 none ∈ wb := wb_t3 (List.mem_of_getElem? (i := 50) rfl) rfl
set_option maxRecDepth 20000 in
theorem k3_51 : Cond.methodLink "FinalityTreeModel" 127 ⟨"FinalityTreeModel", "origin", "()V"⟩ ∈ wb := wb_t3 (List.mem_of_getElem? (i := 51) rfl) rfl
set_option maxRecDepth 20000 in
theorem k3_53 : Cond.instanceMethod ⟨"FinalityTreeModel", "origin", "()V"⟩ ∈ wb := wb_t3 (List.mem_of_getElem? (i := 53) rfl) rfl
set_option maxRecDepth 20000 in
theorem k3_54 : Cond.code ⟨"FinalityTreeModel", "origin", "()V"⟩ prog_8_method_10_code 2 none ∈ wb := wb_t3 (List.mem_of_getElem? (i := 54) rfl) rfl
set_option maxRecDepth 20000 in
theorem k3_55 : Cond.methodLink "FinalityTreeModel" 108 ⟨"FinalityTreeModel", "forget", "()V"⟩ ∈ wb := wb_t3 (List.mem_of_getElem? (i := 55) rfl) rfl
set_option maxRecDepth 20000 in
theorem k3_57 : Cond.instanceMethod ⟨"FinalityTreeModel", "forget", "()V"⟩ ∈ wb := wb_t3 (List.mem_of_getElem? (i := 57) rfl) rfl
set_option maxRecDepth 20000 in
theorem k3_58 : Cond.code ⟨"FinalityTreeModel", "forget", "()V"⟩ prog_8_method_11_code 2 none ∈ wb := wb_t3 (List.mem_of_getElem? (i := 58) rfl) rfl
set_option maxRecDepth 20000 in
theorem k3_59 : Cond.methodLink "FinalityTreeModel" 130 ⟨"FinalityTreeModel", "advance", "(I)V"⟩ ∈ wb := wb_t3 (List.mem_of_getElem? (i := 59) rfl) rfl
set_option maxRecDepth 20000 in
theorem k3_61 : Cond.instanceMethod ⟨"FinalityTreeModel", "advance", "(I)V"⟩ ∈ wb := wb_t3 (List.mem_of_getElem? (i := 61) rfl) rfl
set_option maxRecDepth 20000 in
theorem k3_62 : Cond.code ⟨"FinalityTreeModel", "advance", "(I)V"⟩ prog_8_method_12_code 3 none ∈ wb := wb_t3 (List.mem_of_getElem? (i := 62) rfl) rfl
set_option maxRecDepth 20000 in
theorem k3_63 : Cond.methodLink "FinalityTreeModel" 134 ⟨"FinalityTreeModel", "item", "(III)Z"⟩ ∈ wb := wb_t3 (List.mem_of_getElem? (i := 63) rfl) rfl
set_option maxRecDepth 20000 in
theorem k3_65 : Cond.instanceMethod ⟨"FinalityTreeModel", "item", "(III)Z"⟩ ∈ wb := wb_t3 (List.mem_of_getElem? (i := 65) rfl) rfl
set_option maxRecDepth 20000 in
theorem k3_66 : Cond.code ⟨"FinalityTreeModel", "item", "(III)Z"⟩ prog_8_method_16_code 6 (some .boolean) ∈ wb := wb_t3 (List.mem_of_getElem? (i := 66) rfl) rfl
set_option maxRecDepth 20000 in
theorem k3_67 : Cond.methodLink "FinalityTreeModel" 119 ⟨"FinalityTreeModel", "votable", "(III)Z"⟩ ∈ wb := wb_t3 (List.mem_of_getElem? (i := 67) rfl) rfl
set_option maxRecDepth 20000 in
theorem k3_69 : Cond.instanceMethod ⟨"FinalityTreeModel", "votable", "(III)Z"⟩ ∈ wb := wb_t3 (List.mem_of_getElem? (i := 69) rfl) rfl
set_option maxRecDepth 20000 in
theorem k3_70 : Cond.code ⟨"FinalityTreeModel", "votable", "(III)Z"⟩ prog_8_method_13_code 6 (some .boolean) ∈ wb := wb_t3 (List.mem_of_getElem? (i := 70) rfl) rfl
set_option maxRecDepth 20000 in
theorem k3_71 : Cond.methodLink "FinalityTreeModel" 111 ⟨"FinalityTreeModel", "checkpointBlock", "(II)I"⟩ ∈ wb := wb_t3 (List.mem_of_getElem? (i := 71) rfl) rfl
set_option maxRecDepth 20000 in
theorem k3_73 : Cond.instanceMethod ⟨"FinalityTreeModel", "checkpointBlock", "(II)I"⟩ ∈ wb := wb_t3 (List.mem_of_getElem? (i := 73) rfl) rfl
set_option maxRecDepth 20000 in
theorem k3_74 : Cond.code ⟨"FinalityTreeModel", "checkpointBlock", "(II)I"⟩ prog_8_method_8_code 4 (some .int) ∈ wb := wb_t3 (List.mem_of_getElem? (i := 74) rfl) rfl
set_option maxRecDepth 20000 in
theorem k3_75 : Cond.methodLink "FinalityTreeModel" 123 ⟨"FinalityTreeModel", "count", "(II)V"⟩ ∈ wb := wb_t3 (List.mem_of_getElem? (i := 75) rfl) rfl
set_option maxRecDepth 20000 in
theorem k3_77 : Cond.instanceMethod ⟨"FinalityTreeModel", "count", "(II)V"⟩ ∈ wb := wb_t3 (List.mem_of_getElem? (i := 77) rfl) rfl
set_option maxRecDepth 20000 in
theorem k3_78 : Cond.code ⟨"FinalityTreeModel", "count", "(II)V"⟩ prog_8_method_15_code 5 none ∈ wb := wb_t3 (List.mem_of_getElem? (i := 78) rfl) rfl
set_option maxRecDepth 20000 in
theorem k3_79 : Cond.methodLink "FinalityTreeModel" 115 ⟨"FinalityTreeModel", "weightOf", "(Z)I"⟩ ∈ wb := wb_t3 (List.mem_of_getElem? (i := 79) rfl) rfl
set_option maxRecDepth 20000 in
theorem k3_81 : Cond.instanceMethod ⟨"FinalityTreeModel", "weightOf", "(Z)I"⟩ ∈ wb := wb_t3 (List.mem_of_getElem? (i := 81) rfl) rfl
set_option maxRecDepth 20000 in
theorem k3_82 : Cond.code ⟨"FinalityTreeModel", "weightOf", "(Z)I"⟩ prog_8_method_14_code 4 (some .int) ∈ wb := wb_t3 (List.mem_of_getElem? (i := 82) rfl) rfl
set_option maxRecDepth 20000 in
theorem k3_83 : Cond.methodLink "FinalityTreeLaw" 30 ⟨"FinalityTreeModel", "include", "(I)I"⟩ ∈ wb := wb_t3 (List.mem_of_getElem? (i := 83) rfl) rfl
set_option maxRecDepth 20000 in
theorem k3_84 : Cond.instanceMethod ⟨"FinalityTreeModel", "include", "(I)I"⟩ ∈ wb := wb_t3 (List.mem_of_getElem? (i := 84) rfl) rfl
set_option maxRecDepth 20000 in
theorem k3_85 : Cond.selects "FinalityTreeModel" ⟨"FinalityTreeModel", "include", "(I)I"⟩ ⟨"FinalityTreeModel", "include", "(I)I"⟩ ∈ wb := wb_t3 (List.mem_of_getElem? (i := 85) rfl) rfl
set_option maxRecDepth 20000 in
theorem k3_86 : Cond.code ⟨"FinalityTreeModel", "include", "(I)I"⟩ prog_8_method_20_code 2 (some .int) ∈ wb := wb_t3 (List.mem_of_getElem? (i := 86) rfl) rfl
set_option maxRecDepth 20000 in
theorem k3_87 : Cond.methodLink "FinalityTreeModel" 153 ⟨"FinalityTreeModel", "isVote", "(I)Z"⟩ ∈ wb := wb_t3 (List.mem_of_getElem? (i := 87) rfl) rfl
set_option maxRecDepth 20000 in
theorem k3_89 : Cond.instanceMethod ⟨"FinalityTreeModel", "isVote", "(I)Z"⟩ ∈ wb := wb_t3 (List.mem_of_getElem? (i := 89) rfl) rfl
set_option maxRecDepth 20000 in
theorem k3_90 : Cond.code ⟨"FinalityTreeModel", "isVote", "(I)Z"⟩ prog_8_method_4_code 2 (some .boolean) ∈ wb := wb_t3 (List.mem_of_getElem? (i := 90) rfl) rfl
set_option maxRecDepth 20000 in
theorem k3_91 : Cond.methodLink "FinalityTreeModel" 156 ⟨"FinalityTreeModel", "append", "(I)I"⟩ ∈ wb := wb_t3 (List.mem_of_getElem? (i := 91) rfl) rfl
set_option maxRecDepth 20000 in
theorem k3_93 : Cond.instanceMethod ⟨"FinalityTreeModel", "append", "(I)I"⟩ ∈ wb := wb_t3 (List.mem_of_getElem? (i := 93) rfl) rfl
set_option maxRecDepth 20000 in
theorem k3_94 : Cond.code ⟨"FinalityTreeModel", "append", "(I)I"⟩ prog_8_method_19_code 2 (some .int) ∈ wb := wb_t3 (List.mem_of_getElem? (i := 94) rfl) rfl
set_option maxRecDepth 20000 in
theorem k3_95 : Cond.methodLink "FinalityTreeLaw" 35 ⟨"FinalityTreeModel", "accuse", "(II)I"⟩ ∈ wb := wb_t3 (List.mem_of_getElem? (i := 95) rfl) rfl
set_option maxRecDepth 20000 in
theorem k3_96 : Cond.instanceMethod ⟨"FinalityTreeModel", "accuse", "(II)I"⟩ ∈ wb := wb_t3 (List.mem_of_getElem? (i := 96) rfl) rfl
set_option maxRecDepth 20000 in
theorem k3_97 : Cond.selects "FinalityTreeModel" ⟨"FinalityTreeModel", "accuse", "(II)I"⟩ ⟨"FinalityTreeModel", "accuse", "(II)I"⟩ ∈ wb := wb_t3 (List.mem_of_getElem? (i := 97) rfl) rfl
set_option maxRecDepth 20000 in
theorem k3_98 : Cond.code ⟨"FinalityTreeModel", "accuse", "(II)I"⟩ prog_8_method_21_code 3 (some .int) ∈ wb := wb_t3 (List.mem_of_getElem? (i := 98) rfl) rfl
set_option maxRecDepth 20000 in
theorem k3_99 : Cond.methodLink "FinalityTreeModel" 160 ⟨"FinalityTreeModel", "clash", "(II)Z"⟩ ∈ wb := wb_t3 (List.mem_of_getElem? (i := 99) rfl) rfl
set_option maxRecDepth 20000 in
theorem k3_101 : Cond.instanceMethod ⟨"FinalityTreeModel", "clash", "(II)Z"⟩ ∈ wb := wb_t3 (List.mem_of_getElem? (i := 101) rfl) rfl
set_option maxRecDepth 20000 in
theorem k3_102 : Cond.code ⟨"FinalityTreeModel", "clash", "(II)Z"⟩ prog_8_method_9_code 5 (some .boolean) ∈ wb := wb_t3 (List.mem_of_getElem? (i := 102) rfl) rfl
set_option maxRecDepth 20000 in
theorem k3_103 : Cond.methodLink "FinalityTreeLaw" 40 ⟨"FinalityTreeModel", "clear", "()I"⟩ ∈ wb := wb_t3 (List.mem_of_getElem? (i := 103) rfl) rfl
set_option maxRecDepth 20000 in
theorem k3_104 : Cond.instanceMethod ⟨"FinalityTreeModel", "clear", "()I"⟩ ∈ wb := wb_t3 (List.mem_of_getElem? (i := 104) rfl) rfl
set_option maxRecDepth 20000 in
theorem k3_105 : Cond.selects "FinalityTreeModel" ⟨"FinalityTreeModel", "clear", "()I"⟩ ⟨"FinalityTreeModel", "clear", "()I"⟩ ∈ wb := wb_t3 (List.mem_of_getElem? (i := 105) rfl) rfl
set_option maxRecDepth 20000 in
theorem k3_106 : Cond.code ⟨"FinalityTreeModel", "clear", "()I"⟩ prog_8_method_22_code 2 (some .int) ∈ wb := wb_t3 (List.mem_of_getElem? (i := 106) rfl) rfl
set_option maxRecDepth 20000 in
theorem k3_107 : Cond.methodLink "FinalityTreeLaw" 44 ⟨"FinalityTreeModel", "propose", "(II)I"⟩ ∈ wb := wb_t3 (List.mem_of_getElem? (i := 107) rfl) rfl
set_option maxRecDepth 20000 in
theorem k3_108 : Cond.instanceMethod ⟨"FinalityTreeModel", "propose", "(II)I"⟩ ∈ wb := wb_t3 (List.mem_of_getElem? (i := 108) rfl) rfl
set_option maxRecDepth 20000 in
theorem k3_109 : Cond.selects "FinalityTreeModel" ⟨"FinalityTreeModel", "propose", "(II)I"⟩ ⟨"FinalityTreeModel", "propose", "(II)I"⟩ ∈ wb := wb_t3 (List.mem_of_getElem? (i := 109) rfl) rfl
set_option maxRecDepth 20000 in
theorem k3_110 : Cond.code ⟨"FinalityTreeModel", "propose", "(II)I"⟩ prog_8_method_23_code 4 (some .int) ∈ wb := wb_t3 (List.mem_of_getElem? (i := 110) rfl) rfl
set_option maxRecDepth 20000 in
theorem k3_111 : Cond.methodLink "FinalityTreeLaw" 48 ⟨"FinalityTreeModel", "block", "(II)I"⟩ ∈ wb := wb_t3 (List.mem_of_getElem? (i := 111) rfl) rfl
set_option maxRecDepth 20000 in
theorem k3_112 : Cond.instanceMethod ⟨"FinalityTreeModel", "block", "(II)I"⟩ ∈ wb := wb_t3 (List.mem_of_getElem? (i := 112) rfl) rfl
set_option maxRecDepth 20000 in
theorem k3_113 : Cond.selects "FinalityTreeModel" ⟨"FinalityTreeModel", "block", "(II)I"⟩ ⟨"FinalityTreeModel", "block", "(II)I"⟩ ∈ wb := wb_t3 (List.mem_of_getElem? (i := 113) rfl) rfl
set_option maxRecDepth 20000 in
theorem k3_114 : Cond.code ⟨"FinalityTreeModel", "block", "(II)I"⟩ prog_8_method_24_code 3 (some .int) ∈ wb := wb_t3 (List.mem_of_getElem? (i := 114) rfl) rfl
set_option maxRecDepth 20000 in
theorem k3_115 : Cond.methodLink "FinalityTreeLaw" 52 ⟨"FinalityTreeModel", "balance", "(II)I"⟩ ∈ wb := wb_t3 (List.mem_of_getElem? (i := 115) rfl) rfl
set_option maxRecDepth 20000 in
theorem k3_116 : Cond.instanceMethod ⟨"FinalityTreeModel", "balance", "(II)I"⟩ ∈ wb := wb_t3 (List.mem_of_getElem? (i := 116) rfl) rfl
set_option maxRecDepth 20000 in
theorem k3_117 : Cond.selects "FinalityTreeModel" ⟨"FinalityTreeModel", "balance", "(II)I"⟩ ⟨"FinalityTreeModel", "balance", "(II)I"⟩ ∈ wb := wb_t3 (List.mem_of_getElem? (i := 117) rfl) rfl
set_option maxRecDepth 20000 in
theorem k3_118 : Cond.code ⟨"FinalityTreeModel", "balance", "(II)I"⟩ prog_8_method_25_code 3 (some .int) ∈ wb := wb_t3 (List.mem_of_getElem? (i := 118) rfl) rfl
set_option maxRecDepth 20000 in
theorem k3_119 : Cond.methodLink "FinalityTreeLaw" 57 ⟨"FinalityTreeModel", "punished", "(II)Z"⟩ ∈ wb := wb_t3 (List.mem_of_getElem? (i := 119) rfl) rfl
set_option maxRecDepth 20000 in
theorem k3_120 : Cond.instanceMethod ⟨"FinalityTreeModel", "punished", "(II)Z"⟩ ∈ wb := wb_t3 (List.mem_of_getElem? (i := 120) rfl) rfl
set_option maxRecDepth 20000 in
theorem k3_121 : Cond.selects "FinalityTreeModel" ⟨"FinalityTreeModel", "punished", "(II)Z"⟩ ⟨"FinalityTreeModel", "punished", "(II)Z"⟩ ∈ wb := wb_t3 (List.mem_of_getElem? (i := 121) rfl) rfl
set_option maxRecDepth 20000 in
theorem k3_122 : Cond.code ⟨"FinalityTreeModel", "punished", "(II)Z"⟩ prog_8_method_26_code 3 (some .boolean) ∈ wb := wb_t3 (List.mem_of_getElem? (i := 122) rfl) rfl
set_option maxRecDepth 20000 in
theorem k3_123 : Cond.methodLink "FinalityTreeLaw" 61 ⟨"FinalityTreeModel", "counted", "(II)I"⟩ ∈ wb := wb_t3 (List.mem_of_getElem? (i := 123) rfl) rfl
set_option maxRecDepth 20000 in
theorem k3_124 : Cond.instanceMethod ⟨"FinalityTreeModel", "counted", "(II)I"⟩ ∈ wb := wb_t3 (List.mem_of_getElem? (i := 124) rfl) rfl
set_option maxRecDepth 20000 in
theorem k3_125 : Cond.selects "FinalityTreeModel" ⟨"FinalityTreeModel", "counted", "(II)I"⟩ ⟨"FinalityTreeModel", "counted", "(II)I"⟩ ∈ wb := wb_t3 (List.mem_of_getElem? (i := 125) rfl) rfl
set_option maxRecDepth 20000 in
theorem k3_126 : Cond.code ⟨"FinalityTreeModel", "counted", "(II)I"⟩ prog_8_method_27_code 3 (some .int) ∈ wb := wb_t3 (List.mem_of_getElem? (i := 126) rfl) rfl
set_option maxRecDepth 20000 in
theorem k3_127 : Cond.methodLink "FinalityTreeLaw" 65 ⟨"FinalityTreeModel", "ballot", "(II)I"⟩ ∈ wb := wb_t3 (List.mem_of_getElem? (i := 127) rfl) rfl
set_option maxRecDepth 20000 in
theorem k3_128 : Cond.instanceMethod ⟨"FinalityTreeModel", "ballot", "(II)I"⟩ ∈ wb := wb_t3 (List.mem_of_getElem? (i := 128) rfl) rfl
set_option maxRecDepth 20000 in
theorem k3_129 : Cond.selects "FinalityTreeModel" ⟨"FinalityTreeModel", "ballot", "(II)I"⟩ ⟨"FinalityTreeModel", "ballot", "(II)I"⟩ ∈ wb := wb_t3 (List.mem_of_getElem? (i := 129) rfl) rfl
set_option maxRecDepth 20000 in
theorem k3_130 : Cond.code ⟨"FinalityTreeModel", "ballot", "(II)I"⟩ prog_8_method_28_code 3 (some .int) ∈ wb := wb_t3 (List.mem_of_getElem? (i := 130) rfl) rfl
set_option maxRecDepth 20000 in
theorem k3_131 : Cond.methodLink "FinalityTreeLaw" 69 ⟨"FinalityTreeModel", "give", "(II)Z"⟩ ∈ wb := wb_t3 (List.mem_of_getElem? (i := 131) rfl) rfl
set_option maxRecDepth 20000 in
theorem k3_132 : Cond.instanceMethod ⟨"FinalityTreeModel", "give", "(II)Z"⟩ ∈ wb := wb_t3 (List.mem_of_getElem? (i := 132) rfl) rfl
set_option maxRecDepth 20000 in
theorem k3_133 : Cond.selects "FinalityTreeModel" ⟨"FinalityTreeModel", "give", "(II)Z"⟩ ⟨"FinalityTreeModel", "give", "(II)Z"⟩ ∈ wb := wb_t3 (List.mem_of_getElem? (i := 133) rfl) rfl
set_option maxRecDepth 20000 in
theorem k3_134 : Cond.code ⟨"FinalityTreeModel", "give", "(II)Z"⟩ prog_8_method_30_code 5 (some .boolean) ∈ wb := wb_t3 (List.mem_of_getElem? (i := 134) rfl) rfl
set_option maxRecDepth 20000 in
theorem k3_135 : Cond.methodLink "FinalityTreeModel" 164 ⟨"FinalityTreeModel", "isNode", "(I)Z"⟩ ∈ wb := wb_t3 (List.mem_of_getElem? (i := 135) rfl) rfl
set_option maxRecDepth 20000 in
theorem k3_136 : Cond.static ⟨"FinalityTreeModel", "isNode", "(I)Z"⟩ ∈ wb := wb_t3 (List.mem_of_getElem? (i := 136) rfl) rfl
set_option maxRecDepth 20000 in
theorem k3_137 : Cond.code ⟨"FinalityTreeModel", "isNode", "(I)Z"⟩ prog_8_method_6_code 1 (some .boolean) ∈ wb := wb_t3 (List.mem_of_getElem? (i := 137) rfl) rfl
set_option maxRecDepth 20000 in
theorem k3_138 : Cond.methodLink "FinalityTreeModel" 167 ⟨"FinalityTreeModel", "hearAll", "(II)V"⟩ ∈ wb := wb_t3 (List.mem_of_getElem? (i := 138) rfl) rfl
set_option maxRecDepth 20000 in
theorem k3_140 : Cond.instanceMethod ⟨"FinalityTreeModel", "hearAll", "(II)V"⟩ ∈ wb := wb_t3 (List.mem_of_getElem? (i := 140) rfl) rfl
set_option maxRecDepth 20000 in
theorem k3_141 : Cond.code ⟨"FinalityTreeModel", "hearAll", "(II)V"⟩ prog_8_method_29_code 5 none ∈ wb := wb_t3 (List.mem_of_getElem? (i := 141) rfl) rfl
set_option maxRecDepth 20000 in
theorem k3_142 : Cond.methodLink "FinalityTreeModel" 170 ⟨"FinalityTreeModel", "descends", "(II)Z"⟩ ∈ wb := wb_t3 (List.mem_of_getElem? (i := 142) rfl) rfl
set_option maxRecDepth 20000 in
theorem k3_144 : Cond.instanceMethod ⟨"FinalityTreeModel", "descends", "(II)Z"⟩ ∈ wb := wb_t3 (List.mem_of_getElem? (i := 144) rfl) rfl
set_option maxRecDepth 20000 in
theorem k3_145 : Cond.code ⟨"FinalityTreeModel", "descends", "(II)Z"⟩ prog_8_method_7_code 4 (some .boolean) ∈ wb := wb_t3 (List.mem_of_getElem? (i := 145) rfl) rfl
set_option maxRecDepth 20000 in
theorem k3_146 : Cond.methodLink "FinalityTreeLaw" 73 ⟨"FinalityTreeModel", "hear", "(II)Z"⟩ ∈ wb := wb_t3 (List.mem_of_getElem? (i := 146) rfl) rfl
set_option maxRecDepth 20000 in
theorem k3_147 : Cond.instanceMethod ⟨"FinalityTreeModel", "hear", "(II)Z"⟩ ∈ wb := wb_t3 (List.mem_of_getElem? (i := 147) rfl) rfl
set_option maxRecDepth 20000 in
theorem k3_148 : Cond.selects "FinalityTreeModel" ⟨"FinalityTreeModel", "hear", "(II)Z"⟩ ⟨"FinalityTreeModel", "hear", "(II)Z"⟩ ∈ wb := wb_t3 (List.mem_of_getElem? (i := 148) rfl) rfl
set_option maxRecDepth 20000 in
theorem k3_149 : Cond.code ⟨"FinalityTreeModel", "hear", "(II)Z"⟩ prog_8_method_31_code 3 (some .boolean) ∈ wb := wb_t3 (List.mem_of_getElem? (i := 149) rfl) rfl
set_option maxRecDepth 20000 in
theorem k3_150 : Cond.methodLink "FinalityTreeLaw" 77 ⟨"FinalityTreeModel", "knows", "(II)Z"⟩ ∈ wb := wb_t3 (List.mem_of_getElem? (i := 150) rfl) rfl
set_option maxRecDepth 20000 in
theorem k3_151 : Cond.instanceMethod ⟨"FinalityTreeModel", "knows", "(II)Z"⟩ ∈ wb := wb_t3 (List.mem_of_getElem? (i := 151) rfl) rfl
set_option maxRecDepth 20000 in
theorem k3_152 : Cond.selects "FinalityTreeModel" ⟨"FinalityTreeModel", "knows", "(II)Z"⟩ ⟨"FinalityTreeModel", "knows", "(II)Z"⟩ ∈ wb := wb_t3 (List.mem_of_getElem? (i := 152) rfl) rfl
set_option maxRecDepth 20000 in
theorem k3_153 : Cond.code ⟨"FinalityTreeModel", "knows", "(II)Z"⟩ prog_8_method_32_code 3 (some .boolean) ∈ wb := wb_t3 (List.mem_of_getElem? (i := 153) rfl) rfl
set_option maxRecDepth 20000 in
theorem k3_154 : Cond.methodLink "FinalityTreeLaw" 81 ⟨"FinalityTreeModel", "head", "(I)I"⟩ ∈ wb := wb_t3 (List.mem_of_getElem? (i := 154) rfl) rfl
set_option maxRecDepth 20000 in
theorem k3_155 : Cond.instanceMethod ⟨"FinalityTreeModel", "head", "(I)I"⟩ ∈ wb := wb_t3 (List.mem_of_getElem? (i := 155) rfl) rfl
set_option maxRecDepth 20000 in
theorem k3_156 : Cond.selects "FinalityTreeModel" ⟨"FinalityTreeModel", "head", "(I)I"⟩ ⟨"FinalityTreeModel", "head", "(I)I"⟩ ∈ wb := wb_t3 (List.mem_of_getElem? (i := 156) rfl) rfl
set_option maxRecDepth 20000 in
theorem k3_157 : Cond.code ⟨"FinalityTreeModel", "head", "(I)I"⟩ prog_8_method_35_code 8 (some .int) ∈ wb := wb_t3 (List.mem_of_getElem? (i := 157) rfl) rfl
set_option maxRecDepth 20000 in
theorem k3_158 : Cond.methodLink "FinalityTreeModel" 176 ⟨"FinalityTreeModel", "support", "(II)I"⟩ ∈ wb := wb_t3 (List.mem_of_getElem? (i := 158) rfl) rfl
set_option maxRecDepth 20000 in
theorem k3_160 : Cond.instanceMethod ⟨"FinalityTreeModel", "support", "(II)I"⟩ ∈ wb := wb_t3 (List.mem_of_getElem? (i := 160) rfl) rfl
set_option maxRecDepth 20000 in
theorem k3_161 : Cond.code ⟨"FinalityTreeModel", "support", "(II)I"⟩ prog_8_method_34_code 6 (some .int) ∈ wb := wb_t3 (List.mem_of_getElem? (i := 161) rfl) rfl
set_option maxRecDepth 20000 in
theorem k3_162 : Cond.methodLink "FinalityTreeModel" 173 ⟨"FinalityTreeModel", "latest", "(II)I"⟩ ∈ wb := wb_t3 (List.mem_of_getElem? (i := 162) rfl) rfl
set_option maxRecDepth 20000 in
theorem k3_164 : Cond.instanceMethod ⟨"FinalityTreeModel", "latest", "(II)I"⟩ ∈ wb := wb_t3 (List.mem_of_getElem? (i := 164) rfl) rfl
set_option maxRecDepth 20000 in
theorem k3_165 : Cond.code ⟨"FinalityTreeModel", "latest", "(II)I"⟩ prog_8_method_33_code 5 (some .int) ∈ wb := wb_t3 (List.mem_of_getElem? (i := 165) rfl) rfl
set_option maxRecDepth 20000 in
theorem k3_166 : Cond.methodLink "FinalityTreeLaw" 85 ⟨"FinalityTreeModel", "checkpoint", "(II)I"⟩ ∈ wb := wb_t3 (List.mem_of_getElem? (i := 166) rfl) rfl
set_option maxRecDepth 20000 in
theorem k3_167 : Cond.instanceMethod ⟨"FinalityTreeModel", "checkpoint", "(II)I"⟩ ∈ wb := wb_t3 (List.mem_of_getElem? (i := 167) rfl) rfl
set_option maxRecDepth 20000 in
theorem k3_168 : Cond.selects "FinalityTreeModel" ⟨"FinalityTreeModel", "checkpoint", "(II)I"⟩ ⟨"FinalityTreeModel", "checkpoint", "(II)I"⟩ ∈ wb := wb_t3 (List.mem_of_getElem? (i := 168) rfl) rfl
set_option maxRecDepth 20000 in
theorem k3_169 : Cond.code ⟨"FinalityTreeModel", "checkpoint", "(II)I"⟩ prog_8_method_36_code 4 (some .int) ∈ wb := wb_t3 (List.mem_of_getElem? (i := 169) rfl) rfl
set_option maxRecDepth 20000 in
theorem k3_170 : Cond.methodLink "FinalityTreeLaw" 89 ⟨"FinalityTreeModel", "conflict", "(II)Z"⟩ ∈ wb := wb_t3 (List.mem_of_getElem? (i := 170) rfl) rfl
set_option maxRecDepth 20000 in
theorem k3_171 : Cond.instanceMethod ⟨"FinalityTreeModel", "conflict", "(II)Z"⟩ ∈ wb := wb_t3 (List.mem_of_getElem? (i := 171) rfl) rfl
set_option maxRecDepth 20000 in
theorem k3_172 : Cond.selects "FinalityTreeModel" ⟨"FinalityTreeModel", "conflict", "(II)Z"⟩ ⟨"FinalityTreeModel", "conflict", "(II)Z"⟩ ∈ wb := wb_t3 (List.mem_of_getElem? (i := 172) rfl) rfl
set_option maxRecDepth 20000 in
theorem k3_173 : Cond.code ⟨"FinalityTreeModel", "conflict", "(II)Z"⟩ prog_8_method_37_code 5 (some .boolean) ∈ wb := wb_t3 (List.mem_of_getElem? (i := 173) rfl) rfl
set_option maxRecDepth 20000 in
theorem k3_174 : Cond.methodLink "FinalityTreeLaw" 94 ⟨"FinalityTreeModel", "guilty", "(IZ)I"⟩ ∈ wb := wb_t3 (List.mem_of_getElem? (i := 174) rfl) rfl
set_option maxRecDepth 20000 in
theorem k3_175 : Cond.instanceMethod ⟨"FinalityTreeModel", "guilty", "(IZ)I"⟩ ∈ wb := wb_t3 (List.mem_of_getElem? (i := 175) rfl) rfl
set_option maxRecDepth 20000 in
theorem k3_176 : Cond.selects "FinalityTreeModel" ⟨"FinalityTreeModel", "guilty", "(IZ)I"⟩ ⟨"FinalityTreeModel", "guilty", "(IZ)I"⟩ ∈ wb := wb_t3 (List.mem_of_getElem? (i := 176) rfl) rfl
set_option maxRecDepth 20000 in
theorem k3_177 : Cond.code ⟨"FinalityTreeModel", "guilty", "(IZ)I"⟩ prog_8_method_40_code 5 (some .int) ∈ wb := wb_t3 (List.mem_of_getElem? (i := 177) rfl) rfl
set_option maxRecDepth 20000 in
theorem k3_178 : Cond.methodLink "FinalityTreeModel" 182 ⟨"FinalityTreeModel", "pair", "(IIZ)I"⟩ ∈ wb := wb_t3 (List.mem_of_getElem? (i := 178) rfl) rfl
set_option maxRecDepth 20000 in
theorem k3_180 : Cond.instanceMethod ⟨"FinalityTreeModel", "pair", "(IIZ)I"⟩ ∈ wb := wb_t3 (List.mem_of_getElem? (i := 180) rfl) rfl
set_option maxRecDepth 20000 in
theorem k3_181 : Cond.code ⟨"FinalityTreeModel", "pair", "(IIZ)I"⟩ prog_8_method_39_code 6 (some .int) ∈ wb := wb_t3 (List.mem_of_getElem? (i := 181) rfl) rfl
set_option maxRecDepth 20000 in
theorem k3_182 : Cond.methodLink "FinalityTreeModel" 179 ⟨"FinalityTreeModel", "isHeard", "(II)Z"⟩ ∈ wb := wb_t3 (List.mem_of_getElem? (i := 182) rfl) rfl
set_option maxRecDepth 20000 in
theorem k3_184 : Cond.instanceMethod ⟨"FinalityTreeModel", "isHeard", "(II)Z"⟩ ∈ wb := wb_t3 (List.mem_of_getElem? (i := 184) rfl) rfl
set_option maxRecDepth 20000 in
theorem k3_185 : Cond.code ⟨"FinalityTreeModel", "isHeard", "(II)Z"⟩ prog_8_method_38_code 5 (some .boolean) ∈ wb := wb_t3 (List.mem_of_getElem? (i := 185) rfl) rfl
set_option maxRecDepth 20000 in
theorem k3_186 : Cond.methodLink "FinalityTreeLaw" 98 ⟨"FinalityTreeModel", "proof", "(I)I"⟩ ∈ wb := wb_t3 (List.mem_of_getElem? (i := 186) rfl) rfl
set_option maxRecDepth 20000 in
theorem k3_187 : Cond.instanceMethod ⟨"FinalityTreeModel", "proof", "(I)I"⟩ ∈ wb := wb_t3 (List.mem_of_getElem? (i := 187) rfl) rfl
set_option maxRecDepth 20000 in
theorem k3_188 : Cond.selects "FinalityTreeModel" ⟨"FinalityTreeModel", "proof", "(I)I"⟩ ⟨"FinalityTreeModel", "proof", "(I)I"⟩ ∈ wb := wb_t3 (List.mem_of_getElem? (i := 188) rfl) rfl
set_option maxRecDepth 20000 in
theorem k3_189 : Cond.code ⟨"FinalityTreeModel", "proof", "(I)I"⟩ prog_8_method_41_code 3 (some .int) ∈ wb := wb_t3 (List.mem_of_getElem? (i := 189) rfl) rfl
set_option maxRecDepth 20000 in
theorem ks0 : Cond.selects "FinalityTree" ⟨"FinalityTree", "isValidator", "(I)Z"⟩ ⟨"FinalityTree", "isValidator", "(I)Z"⟩ ∈ wb := wb_s (List.mem_of_getElem? (i := 0) rfl) rfl
set_option maxRecDepth 20000 in
theorem ks1 : Cond.selects "FinalityTree" ⟨"FinalityTree", "isBlock", "(I)Z"⟩ ⟨"FinalityTree", "isBlock", "(I)Z"⟩ ∈ wb := wb_s (List.mem_of_getElem? (i := 1) rfl) rfl
set_option maxRecDepth 20000 in
theorem ks2 : Cond.selects "FinalityTree" ⟨"FinalityTree", "checkpointOn", "(II)I"⟩ ⟨"FinalityTree", "checkpointOn", "(II)I"⟩ ∈ wb := wb_s (List.mem_of_getElem? (i := 2) rfl) rfl
set_option maxRecDepth 20000 in
theorem ks3 : Cond.selects "FinalityTree" ⟨"FinalityTree", "descends", "(II)Z"⟩ ⟨"FinalityTree", "descends", "(II)Z"⟩ ∈ wb := wb_s (List.mem_of_getElem? (i := 3) rfl) rfl
set_option maxRecDepth 20000 in
theorem ks4 : Cond.selects "FinalityTree" ⟨"FinalityTree", "voteAlike", "(III)I"⟩ ⟨"FinalityTree", "voteAlike", "(III)I"⟩ ∈ wb := wb_s (List.mem_of_getElem? (i := 4) rfl) rfl
set_option maxRecDepth 20000 in
theorem ks5 : Cond.selects "FinalityTree" ⟨"FinalityTree", "isVote", "(I)Z"⟩ ⟨"FinalityTree", "isVote", "(I)Z"⟩ ∈ wb := wb_s (List.mem_of_getElem? (i := 5) rfl) rfl
set_option maxRecDepth 20000 in
theorem ks6 : Cond.selects "FinalityTree" ⟨"FinalityTree", "clash", "(II)Z"⟩ ⟨"FinalityTree", "clash", "(II)Z"⟩ ∈ wb := wb_s (List.mem_of_getElem? (i := 6) rfl) rfl
set_option maxRecDepth 20000 in
theorem ks7 : Cond.selects "FinalityTree" ⟨"FinalityTree", "takeItem", "(III)Z"⟩ ⟨"FinalityTree", "takeItem", "(III)Z"⟩ ∈ wb := wb_s (List.mem_of_getElem? (i := 7) rfl) rfl
set_option maxRecDepth 20000 in
theorem ks8 : Cond.selects "FinalityTree" ⟨"FinalityTree", "takeVote", "(LFinalityTree$Vote;II)Z"⟩ ⟨"FinalityTree", "takeVote", "(LFinalityTree$Vote;II)Z"⟩ ∈ wb := wb_s (List.mem_of_getElem? (i := 8) rfl) rfl
set_option maxRecDepth 20000 in
theorem ks9 : Cond.selects "FinalityTree" ⟨"FinalityTree", "weightOf", "(I)I"⟩ ⟨"FinalityTree", "weightOf", "(I)I"⟩ ∈ wb := wb_s (List.mem_of_getElem? (i := 9) rfl) rfl
set_option maxRecDepth 20000 in
theorem ks10 : Cond.selects "FinalityTree" ⟨"FinalityTree", "takeEvidence", "(II)Z"⟩ ⟨"FinalityTree", "takeEvidence", "(II)Z"⟩ ∈ wb := wb_s (List.mem_of_getElem? (i := 10) rfl) rfl
set_option maxRecDepth 20000 in
theorem ks11 : Cond.selects "FinalityTree" ⟨"FinalityTree", "takeInVotes", "(LFinalityTree$Node;LFinalityTree$Items;)V"⟩ ⟨"FinalityTree", "takeInVotes", "(LFinalityTree$Node;LFinalityTree$Items;)V"⟩ ∈ wb := wb_s (List.mem_of_getElem? (i := 11) rfl) rfl
set_option maxRecDepth 20000 in
theorem ks12 : Cond.selects "FinalityTree" ⟨"FinalityTree", "takeInVote", "(LFinalityTree$Node;I)V"⟩ ⟨"FinalityTree", "takeInVote", "(LFinalityTree$Node;I)V"⟩ ∈ wb := wb_s (List.mem_of_getElem? (i := 12) rfl) rfl
set_option maxRecDepth 20000 in
theorem ks13 : Cond.selects "FinalityTree" ⟨"FinalityTree", "takeInCheckpoints", "(LFinalityTree$Node;LFinalityTree$State;)V"⟩ ⟨"FinalityTree", "takeInCheckpoints", "(LFinalityTree$Node;LFinalityTree$State;)V"⟩ ∈ wb := wb_s (List.mem_of_getElem? (i := 13) rfl) rfl
set_option maxRecDepth 20000 in
theorem ks14 : Cond.selects "FinalityTree" ⟨"FinalityTree", "forgetBeside", "(LFinalityTree$Node;I)V"⟩ ⟨"FinalityTree", "forgetBeside", "(LFinalityTree$Node;I)V"⟩ ∈ wb := wb_s (List.mem_of_getElem? (i := 14) rfl) rfl
set_option maxRecDepth 20000 in
theorem ks15 : Cond.selects "FinalityTree" ⟨"FinalityTree", "heaviestChild", "(LFinalityTree$Node;I)I"⟩ ⟨"FinalityTree", "heaviestChild", "(LFinalityTree$Node;I)I"⟩ ∈ wb := wb_s (List.mem_of_getElem? (i := 15) rfl) rfl
set_option maxRecDepth 20000 in
theorem ks16 : Cond.selects "FinalityTree" ⟨"FinalityTree", "supportOf", "(LFinalityTree$Node;I)I"⟩ ⟨"FinalityTree", "supportOf", "(LFinalityTree$Node;I)I"⟩ ∈ wb := wb_s (List.mem_of_getElem? (i := 16) rfl) rfl
set_option maxRecDepth 20000 in
theorem ks17 : Cond.selects "FinalityTree" ⟨"FinalityTree", "lowestClash", "(IIZ)I"⟩ ⟨"FinalityTree", "lowestClash", "(IIZ)I"⟩ ∈ wb := wb_s (List.mem_of_getElem? (i := 17) rfl) rfl
set_option maxRecDepth 20000 in
theorem ks18 : Cond.selects "FinalityTree" ⟨"FinalityTree", "isHeard", "(II)Z"⟩ ⟨"FinalityTree", "isHeard", "(II)Z"⟩ ∈ wb := wb_s (List.mem_of_getElem? (i := 18) rfl) rfl
set_option maxRecDepth 20000 in
theorem ks19 : Cond.selects "FinalityTreeModel" ⟨"FinalityTreeModel", "isValidator", "(I)Z"⟩ ⟨"FinalityTreeModel", "isValidator", "(I)Z"⟩ ∈ wb := wb_s (List.mem_of_getElem? (i := 19) rfl) rfl
set_option maxRecDepth 20000 in
theorem ks20 : Cond.selects "FinalityTreeModel" ⟨"FinalityTreeModel", "isBlock", "(I)Z"⟩ ⟨"FinalityTreeModel", "isBlock", "(I)Z"⟩ ∈ wb := wb_s (List.mem_of_getElem? (i := 20) rfl) rfl
set_option maxRecDepth 20000 in
theorem ks21 : Cond.selects "FinalityTreeModel" ⟨"FinalityTreeModel", "make", "(I)V"⟩ ⟨"FinalityTreeModel", "make", "(I)V"⟩ ∈ wb := wb_s (List.mem_of_getElem? (i := 21) rfl) rfl
set_option maxRecDepth 20000 in
theorem ks22 : Cond.selects "FinalityTreeModel" ⟨"FinalityTreeModel", "origin", "()V"⟩ ⟨"FinalityTreeModel", "origin", "()V"⟩ ∈ wb := wb_s (List.mem_of_getElem? (i := 22) rfl) rfl
set_option maxRecDepth 20000 in
theorem ks23 : Cond.selects "FinalityTreeModel" ⟨"FinalityTreeModel", "forget", "()V"⟩ ⟨"FinalityTreeModel", "forget", "()V"⟩ ∈ wb := wb_s (List.mem_of_getElem? (i := 23) rfl) rfl
set_option maxRecDepth 20000 in
theorem ks24 : Cond.selects "FinalityTreeModel" ⟨"FinalityTreeModel", "advance", "(I)V"⟩ ⟨"FinalityTreeModel", "advance", "(I)V"⟩ ∈ wb := wb_s (List.mem_of_getElem? (i := 24) rfl) rfl
set_option maxRecDepth 20000 in
theorem ks25 : Cond.selects "FinalityTreeModel" ⟨"FinalityTreeModel", "item", "(III)Z"⟩ ⟨"FinalityTreeModel", "item", "(III)Z"⟩ ∈ wb := wb_s (List.mem_of_getElem? (i := 25) rfl) rfl
set_option maxRecDepth 20000 in
theorem ks26 : Cond.selects "FinalityTreeModel" ⟨"FinalityTreeModel", "votable", "(III)Z"⟩ ⟨"FinalityTreeModel", "votable", "(III)Z"⟩ ∈ wb := wb_s (List.mem_of_getElem? (i := 26) rfl) rfl
set_option maxRecDepth 20000 in
theorem ks27 : Cond.selects "FinalityTreeModel" ⟨"FinalityTreeModel", "checkpointBlock", "(II)I"⟩ ⟨"FinalityTreeModel", "checkpointBlock", "(II)I"⟩ ∈ wb := wb_s (List.mem_of_getElem? (i := 27) rfl) rfl
set_option maxRecDepth 20000 in
theorem ks28 : Cond.selects "FinalityTreeModel" ⟨"FinalityTreeModel", "count", "(II)V"⟩ ⟨"FinalityTreeModel", "count", "(II)V"⟩ ∈ wb := wb_s (List.mem_of_getElem? (i := 28) rfl) rfl
set_option maxRecDepth 20000 in
theorem ks29 : Cond.selects "FinalityTreeModel" ⟨"FinalityTreeModel", "weightOf", "(Z)I"⟩ ⟨"FinalityTreeModel", "weightOf", "(Z)I"⟩ ∈ wb := wb_s (List.mem_of_getElem? (i := 29) rfl) rfl
set_option maxRecDepth 20000 in
theorem ks30 : Cond.selects "FinalityTreeModel" ⟨"FinalityTreeModel", "isVote", "(I)Z"⟩ ⟨"FinalityTreeModel", "isVote", "(I)Z"⟩ ∈ wb := wb_s (List.mem_of_getElem? (i := 30) rfl) rfl
set_option maxRecDepth 20000 in
theorem ks31 : Cond.selects "FinalityTreeModel" ⟨"FinalityTreeModel", "append", "(I)I"⟩ ⟨"FinalityTreeModel", "append", "(I)I"⟩ ∈ wb := wb_s (List.mem_of_getElem? (i := 31) rfl) rfl
set_option maxRecDepth 20000 in
theorem ks32 : Cond.selects "FinalityTreeModel" ⟨"FinalityTreeModel", "clash", "(II)Z"⟩ ⟨"FinalityTreeModel", "clash", "(II)Z"⟩ ∈ wb := wb_s (List.mem_of_getElem? (i := 32) rfl) rfl
set_option maxRecDepth 20000 in
theorem ks33 : Cond.selects "FinalityTreeModel" ⟨"FinalityTreeModel", "hearAll", "(II)V"⟩ ⟨"FinalityTreeModel", "hearAll", "(II)V"⟩ ∈ wb := wb_s (List.mem_of_getElem? (i := 33) rfl) rfl
set_option maxRecDepth 20000 in
theorem ks34 : Cond.selects "FinalityTreeModel" ⟨"FinalityTreeModel", "descends", "(II)Z"⟩ ⟨"FinalityTreeModel", "descends", "(II)Z"⟩ ∈ wb := wb_s (List.mem_of_getElem? (i := 34) rfl) rfl
set_option maxRecDepth 20000 in
theorem ks35 : Cond.selects "FinalityTreeModel" ⟨"FinalityTreeModel", "support", "(II)I"⟩ ⟨"FinalityTreeModel", "support", "(II)I"⟩ ∈ wb := wb_s (List.mem_of_getElem? (i := 35) rfl) rfl
set_option maxRecDepth 20000 in
theorem ks36 : Cond.selects "FinalityTreeModel" ⟨"FinalityTreeModel", "latest", "(II)I"⟩ ⟨"FinalityTreeModel", "latest", "(II)I"⟩ ∈ wb := wb_s (List.mem_of_getElem? (i := 36) rfl) rfl
set_option maxRecDepth 20000 in
theorem ks37 : Cond.selects "FinalityTreeModel" ⟨"FinalityTreeModel", "pair", "(IIZ)I"⟩ ⟨"FinalityTreeModel", "pair", "(IIZ)I"⟩ ∈ wb := wb_s (List.mem_of_getElem? (i := 37) rfl) rfl
set_option maxRecDepth 20000 in
theorem ks38 : Cond.selects "FinalityTreeModel" ⟨"FinalityTreeModel", "isHeard", "(II)Z"⟩ ⟨"FinalityTreeModel", "isHeard", "(II)Z"⟩ ∈ wb := wb_s (List.mem_of_getElem? (i := 38) rfl) rfl
set_option maxRecDepth 20000 in
theorem inB : ∀ w ∈ u_ws RB TB 6, w ∈ wb := by
  intro w hw
  obtain ⟨k, hk, rfl⟩ := List.mem_map.mp hw
  have hk := List.mem_range.mp hk
  rcases (show k = 0 ∨ k = 1 ∨ k = 2 ∨ k = 3 ∨ k = 4 ∨ k = 5 by omega) with rfl | rfl | rfl | rfl | rfl | rfl
  · exact k1_93
  · exact k1_95
  · exact k1_97
  · exact k1_99
  · exact k1_101
  · exact k1_103
set_option maxRecDepth 20000 in
theorem inI : ∀ w ∈ u_ws RI TI 3, w ∈ wb := by
  intro w hw
  obtain ⟨k, hk, rfl⟩ := List.mem_map.mp hw
  have hk := List.mem_range.mp hk
  rcases (show k = 0 ∨ k = 1 ∨ k = 2 by omega) with rfl | rfl | rfl
  · exact k1_43
  · exact k1_45
  · exact k1_47
set_option maxRecDepth 20000 in
theorem inN : ∀ w ∈ u_ws RN TN 5, w ∈ wb := by
  intro w hw
  obtain ⟨k, hk, rfl⟩ := List.mem_map.mp hw
  have hk := List.mem_range.mp hk
  rcases (show k = 0 ∨ k = 1 ∨ k = 2 ∨ k = 3 ∨ k = 4 by omega) with rfl | rfl | rfl | rfl | rfl
  · exact k1_146
  · exact k1_148
  · exact k1_150
  · exact k1_152
  · exact k1_154
set_option maxRecDepth 20000 in
theorem inS : ∀ w ∈ u_ws RS TS 7, w ∈ wb := by
  intro w hw
  obtain ⟨k, hk, rfl⟩ := List.mem_map.mp hw
  have hk := List.mem_range.mp hk
  rcases (show k = 0 ∨ k = 1 ∨ k = 2 ∨ k = 3 ∨ k = 4 ∨ k = 5 ∨ k = 6 by omega) with rfl | rfl | rfl | rfl | rfl | rfl | rfl
  · exact k1_68
  · exact k1_70
  · exact k1_72
  · exact k1_74
  · exact k1_76
  · exact k1_78
  · exact k1_80
set_option maxRecDepth 20000 in
theorem inV : ∀ w ∈ u_ws RV TV 5, w ∈ wb := by
  intro w hw
  obtain ⟨k, hk, rfl⟩ := List.mem_map.mp hw
  have hk := List.mem_range.mp hk
  rcases (show k = 0 ∨ k = 1 ∨ k = 2 ∨ k = 3 ∨ k = 4 by omega) with rfl | rfl | rfl | rfl | rfl
  · exact k1_120
  · exact k1_122
  · exact k1_124
  · exact k1_126
  · exact k1_128
set_option maxRecDepth 20000 in
theorem inF : ∀ w ∈ u_ws RF TF 11, w ∈ wb := by
  intro w hw
  obtain ⟨k, hk, rfl⟩ := List.mem_map.mp hw
  have hk := List.mem_range.mp hk
  rcases (show k = 0 ∨ k = 1 ∨ k = 2 ∨ k = 3 ∨ k = 4 ∨ k = 5 ∨ k = 6 ∨ k = 7 ∨ k = 8 ∨ k = 9 ∨ k = 10 by omega) with rfl | rfl | rfl | rfl | rfl | rfl | rfl | rfl | rfl | rfl | rfl
  · exact k1_173
  · exact k1_175
  · exact k1_177
  · exact k1_179
  · exact k1_181
  · exact k1_183
  · exact k1_185
  · exact k1_187
  · exact k1_189
  · exact k1_191
  · exact k1_193
set_option maxRecDepth 20000 in
theorem inM : ∀ w ∈ u_ws RM TM 33, w ∈ wb := by
  intro w hw
  obtain ⟨k, hk, rfl⟩ := List.mem_map.mp hw
  have hk := List.mem_range.mp hk
  rcases (show k = 0 ∨ k = 1 ∨ k = 2 ∨ k = 3 ∨ k = 4 ∨ k = 5 ∨ k = 6 ∨ k = 7 ∨ k = 8 ∨ k = 9 ∨ k = 10 ∨ k = 11 ∨ k = 12 ∨ k = 13 ∨ k = 14 ∨ k = 15 ∨ k = 16 ∨ k = 17 ∨ k = 18 ∨ k = 19 ∨ k = 20 ∨ k = 21 ∨ k = 22 ∨ k = 23 ∨ k = 24 ∨ k = 25 ∨ k = 26 ∨ k = 27 ∨ k = 28 ∨ k = 29 ∨ k = 30 ∨ k = 31 ∨ k = 32 by omega) with rfl | rfl | rfl | rfl | rfl | rfl | rfl | rfl | rfl | rfl | rfl | rfl | rfl | rfl | rfl | rfl | rfl | rfl | rfl | rfl | rfl | rfl | rfl | rfl | rfl | rfl | rfl | rfl | rfl | rfl | rfl | rfl | rfl
  · exact k2_205
  · exact k2_207
  · exact k2_209
  · exact k2_211
  · exact k2_213
  · exact k2_215
  · exact k2_217
  · exact k2_219
  · exact k2_221
  · exact k2_223
  · exact k2_225
  · exact k2_227
  · exact k2_229
  · exact k2_231
  · exact k2_233
  · exact k2_235
  · exact k2_237
  · exact k2_239
  · exact k3_1
  · exact k3_3
  · exact k3_5
  · exact k3_7
  · exact k3_9
  · exact k3_11
  · exact k3_13
  · exact k3_15
  · exact k3_17
  · exact k3_19
  · exact k3_21
  · exact k3_23
  · exact k3_25
  · exact k3_27
  · exact k3_29
abbrev cF_init : ByteArray := prog_1_method_1_code
abbrev yF_init : MethodName := ⟨"FinalityTree", "<init>", "(III)V"⟩
noncomputable def wF_init : List Cond := .code yF_init cF_init 6 none :: wb
abbrev cF_vote : ByteArray := prog_1_method_2_code
abbrev yF_vote : MethodName := ⟨"FinalityTree", "vote", "(III)I"⟩
noncomputable def wF_vote : List Cond := .code yF_vote cF_vote 8 (some .int) :: wb
abbrev cF_include : ByteArray := prog_1_method_3_code
abbrev yF_include : MethodName := ⟨"FinalityTree", "include", "(I)I"⟩
noncomputable def wF_include : List Cond := .code yF_include cF_include 2 (some .int) :: wb
abbrev cF_accuse : ByteArray := prog_1_method_4_code
abbrev yF_accuse : MethodName := ⟨"FinalityTree", "accuse", "(II)I"⟩
noncomputable def wF_accuse : List Cond := .code yF_accuse cF_accuse 3 (some .int) :: wb
abbrev cF_clear : ByteArray := prog_1_method_5_code
abbrev yF_clear : MethodName := ⟨"FinalityTree", "clear", "()I"⟩
noncomputable def wF_clear : List Cond := .code yF_clear cF_clear 2 (some .int) :: wb
abbrev cF_propose : ByteArray := prog_1_method_6_code
abbrev yF_propose : MethodName := ⟨"FinalityTree", "propose", "(II)I"⟩
noncomputable def wF_propose : List Cond := .code yF_propose cF_propose 6 (some .int) :: wb
abbrev cF_block : ByteArray := prog_1_method_7_code
abbrev yF_block : MethodName := ⟨"FinalityTree", "block", "(II)I"⟩
noncomputable def wF_block : List Cond := .code yF_block cF_block 4 (some .int) :: wb
abbrev cF_balance : ByteArray := prog_1_method_8_code
abbrev yF_balance : MethodName := ⟨"FinalityTree", "balance", "(II)I"⟩
noncomputable def wF_balance : List Cond := .code yF_balance cF_balance 3 (some .int) :: wb
abbrev cF_punished : ByteArray := prog_1_method_9_code
abbrev yF_punished : MethodName := ⟨"FinalityTree", "punished", "(II)Z"⟩
noncomputable def wF_punished : List Cond := .code yF_punished cF_punished 3 (some .boolean) :: wb
abbrev cF_counted : ByteArray := prog_1_method_10_code
abbrev yF_counted : MethodName := ⟨"FinalityTree", "counted", "(II)I"⟩
noncomputable def wF_counted : List Cond := .code yF_counted cF_counted 3 (some .int) :: wb
abbrev cF_ballot : ByteArray := prog_1_method_11_code
abbrev yF_ballot : MethodName := ⟨"FinalityTree", "ballot", "(II)I"⟩
noncomputable def wF_ballot : List Cond := .code yF_ballot cF_ballot 4 (some .int) :: wb
abbrev cF_give : ByteArray := prog_1_method_12_code
abbrev yF_give : MethodName := ⟨"FinalityTree", "give", "(II)Z"⟩
noncomputable def wF_give : List Cond := .code yF_give cF_give 5 (some .boolean) :: wb
abbrev cF_hear : ByteArray := prog_1_method_13_code
abbrev yF_hear : MethodName := ⟨"FinalityTree", "hear", "(II)Z"⟩
noncomputable def wF_hear : List Cond := .code yF_hear cF_hear 3 (some .boolean) :: wb
abbrev cF_knows : ByteArray := prog_1_method_14_code
abbrev yF_knows : MethodName := ⟨"FinalityTree", "knows", "(II)Z"⟩
noncomputable def wF_knows : List Cond := .code yF_knows cF_knows 3 (some .boolean) :: wb
abbrev cF_head : ByteArray := prog_1_method_15_code
abbrev yF_head : MethodName := ⟨"FinalityTree", "head", "(I)I"⟩
noncomputable def wF_head : List Cond := .code yF_head cF_head 5 (some .int) :: wb
abbrev cF_checkpoint : ByteArray := prog_1_method_16_code
abbrev yF_checkpoint : MethodName := ⟨"FinalityTree", "checkpoint", "(II)I"⟩
noncomputable def wF_checkpoint : List Cond := .code yF_checkpoint cF_checkpoint 3 (some .int) :: wb
abbrev cF_conflict : ByteArray := prog_1_method_17_code
abbrev yF_conflict : MethodName := ⟨"FinalityTree", "conflict", "(II)Z"⟩
noncomputable def wF_conflict : List Cond := .code yF_conflict cF_conflict 5 (some .boolean) :: wb
abbrev cF_guilty : ByteArray := prog_1_method_18_code
abbrev yF_guilty : MethodName := ⟨"FinalityTree", "guilty", "(IZ)I"⟩
noncomputable def wF_guilty : List Cond := .code yF_guilty cF_guilty 5 (some .int) :: wb
abbrev cF_proof : ByteArray := prog_1_method_19_code
abbrev yF_proof : MethodName := ⟨"FinalityTree", "proof", "(I)I"⟩
noncomputable def wF_proof : List Cond := .code yF_proof cF_proof 3 (some .int) :: wb
abbrev cF_isValidator : ByteArray := prog_1_method_20_code
abbrev yF_isValidator : MethodName := ⟨"FinalityTree", "isValidator", "(I)Z"⟩
noncomputable def wF_isValidator : List Cond := .code yF_isValidator cF_isValidator 2 (some .boolean) :: wb
abbrev cF_isBlock : ByteArray := prog_1_method_21_code
abbrev yF_isBlock : MethodName := ⟨"FinalityTree", "isBlock", "(I)Z"⟩
noncomputable def wF_isBlock : List Cond := .code yF_isBlock cF_isBlock 2 (some .boolean) :: wb
abbrev cF_isVote : ByteArray := prog_1_method_22_code
abbrev yF_isVote : MethodName := ⟨"FinalityTree", "isVote", "(I)Z"⟩
noncomputable def wF_isVote : List Cond := .code yF_isVote cF_isVote 2 (some .boolean) :: wb
abbrev cF_isNode : ByteArray := prog_1_method_23_code
abbrev yF_isNode : MethodName := ⟨"FinalityTree", "isNode", "(I)Z"⟩
noncomputable def wF_isNode : List Cond := .code yF_isNode cF_isNode 1 (some .boolean) :: wb
abbrev cF_isIn : ByteArray := prog_1_method_24_code
abbrev yF_isIn : MethodName := ⟨"FinalityTree", "isIn", "(II)Z"⟩
noncomputable def wF_isIn : List Cond := .code yF_isIn cF_isIn 2 (some .boolean) :: wb
abbrev cF_checkpointOf : ByteArray := prog_1_method_25_code
abbrev yF_checkpointOf : MethodName := ⟨"FinalityTree", "checkpointOf", "(II)I"⟩
noncomputable def wF_checkpointOf : List Cond := .code yF_checkpointOf cF_checkpointOf 2 (some .int) :: wb
abbrev cF_epochOf : ByteArray := prog_1_method_26_code
abbrev yF_epochOf : MethodName := ⟨"FinalityTree", "epochOf", "(I)I"⟩
noncomputable def wF_epochOf : List Cond := .code yF_epochOf cF_epochOf 1 (some .int) :: wb
abbrev cF_blockOf : ByteArray := prog_1_method_27_code
abbrev yF_blockOf : MethodName := ⟨"FinalityTree", "blockOf", "(I)I"⟩
noncomputable def wF_blockOf : List Cond := .code yF_blockOf cF_blockOf 1 (some .int) :: wb
abbrev cF_descends : ByteArray := prog_1_method_28_code
abbrev yF_descends : MethodName := ⟨"FinalityTree", "descends", "(II)Z"⟩
noncomputable def wF_descends : List Cond := .code yF_descends cF_descends 3 (some .boolean) :: wb
abbrev cF_checkpointOn : ByteArray := prog_1_method_29_code
abbrev yF_checkpointOn : MethodName := ⟨"FinalityTree", "checkpointOn", "(II)I"⟩
noncomputable def wF_checkpointOn : List Cond := .code yF_checkpointOn cF_checkpointOn 5 (some .int) :: wb
abbrev cF_weightOf : ByteArray := prog_1_method_30_code
abbrev yF_weightOf : MethodName := ⟨"FinalityTree", "weightOf", "(I)I"⟩
noncomputable def wF_weightOf : List Cond := .code yF_weightOf cF_weightOf 4 (some .int) :: wb
abbrev cF_voteAlike : ByteArray := prog_1_method_31_code
abbrev yF_voteAlike : MethodName := ⟨"FinalityTree", "voteAlike", "(III)I"⟩
noncomputable def wF_voteAlike : List Cond := .code yF_voteAlike cF_voteAlike 5 (some .int) :: wb
abbrev cF_clash : ByteArray := prog_1_method_32_code
abbrev yF_clash : MethodName := ⟨"FinalityTree", "clash", "(II)Z"⟩
noncomputable def wF_clash : List Cond := .code yF_clash cF_clash 5 (some .boolean) :: wb
abbrev cF_takeItem : ByteArray := prog_1_method_33_code
abbrev yF_takeItem : MethodName := ⟨"FinalityTree", "takeItem", "(III)Z"⟩
noncomputable def wF_takeItem : List Cond := .code yF_takeItem cF_takeItem 5 (some .boolean) :: wb
abbrev cF_takeVote : ByteArray := prog_1_method_34_code
abbrev yF_takeVote : MethodName := ⟨"FinalityTree", "takeVote", "(LFinalityTree$Vote;II)Z"⟩
noncomputable def wF_takeVote : List Cond := .code yF_takeVote cF_takeVote 5 (some .boolean) :: wb
abbrev cF_takeEvidence : ByteArray := prog_1_method_35_code
abbrev yF_takeEvidence : MethodName := ⟨"FinalityTree", "takeEvidence", "(II)Z"⟩
noncomputable def wF_takeEvidence : List Cond := .code yF_takeEvidence cF_takeEvidence 3 (some .boolean) :: wb
abbrev cF_takeInVotes : ByteArray := prog_1_method_36_code
abbrev yF_takeInVotes : MethodName := ⟨"FinalityTree", "takeInVotes", "(LFinalityTree$Node;LFinalityTree$Items;)V"⟩
noncomputable def wF_takeInVotes : List Cond := .code yF_takeInVotes cF_takeInVotes 4 none :: wb
abbrev cF_takeInVote : ByteArray := prog_1_method_37_code
abbrev yF_takeInVote : MethodName := ⟨"FinalityTree", "takeInVote", "(LFinalityTree$Node;I)V"⟩
noncomputable def wF_takeInVote : List Cond := .code yF_takeInVote cF_takeInVote 5 none :: wb
abbrev cF_takeInCheckpoints : ByteArray := prog_1_method_38_code
abbrev yF_takeInCheckpoints : MethodName := ⟨"FinalityTree", "takeInCheckpoints", "(LFinalityTree$Node;LFinalityTree$State;)V"⟩
noncomputable def wF_takeInCheckpoints : List Cond := .code yF_takeInCheckpoints cF_takeInCheckpoints 4 none :: wb
abbrev cF_forgetBeside : ByteArray := prog_1_method_39_code
abbrev yF_forgetBeside : MethodName := ⟨"FinalityTree", "forgetBeside", "(LFinalityTree$Node;I)V"⟩
noncomputable def wF_forgetBeside : List Cond := .code yF_forgetBeside cF_forgetBeside 4 none :: wb
abbrev cF_heaviestChild : ByteArray := prog_1_method_40_code
abbrev yF_heaviestChild : MethodName := ⟨"FinalityTree", "heaviestChild", "(LFinalityTree$Node;I)I"⟩
noncomputable def wF_heaviestChild : List Cond := .code yF_heaviestChild cF_heaviestChild 7 (some .int) :: wb
abbrev cF_supportOf : ByteArray := prog_1_method_41_code
abbrev yF_supportOf : MethodName := ⟨"FinalityTree", "supportOf", "(LFinalityTree$Node;I)I"⟩
noncomputable def wF_supportOf : List Cond := .code yF_supportOf cF_supportOf 6 (some .int) :: wb
abbrev cF_lowestClash : ByteArray := prog_1_method_42_code
abbrev yF_lowestClash : MethodName := ⟨"FinalityTree", "lowestClash", "(IIZ)I"⟩
noncomputable def wF_lowestClash : List Cond := .code yF_lowestClash cF_lowestClash 6 (some .int) :: wb
abbrev cF_isHeard : ByteArray := prog_1_method_43_code
abbrev yF_isHeard : MethodName := ⟨"FinalityTree", "isHeard", "(II)Z"⟩
noncomputable def wF_isHeard : List Cond := .code yF_isHeard cF_isHeard 4 (some .boolean) :: wb
abbrev cM_init : ByteArray := prog_8_method_1_code
abbrev yM_init : MethodName := ⟨"FinalityTreeModel", "<init>", "(III)V"⟩
noncomputable def wM_init : List Cond := .code yM_init cM_init 5 none :: wb
abbrev cM_outside : ByteArray := prog_8_method_2_code
abbrev yM_outside : MethodName := ⟨"FinalityTreeModel", "outside", "(III)Z"⟩
noncomputable def wM_outside : List Cond := .code yM_outside cM_outside 3 (some .boolean) :: wb
abbrev cM_isBlock : ByteArray := prog_8_method_3_code
abbrev yM_isBlock : MethodName := ⟨"FinalityTreeModel", "isBlock", "(I)Z"⟩
noncomputable def wM_isBlock : List Cond := .code yM_isBlock cM_isBlock 2 (some .boolean) :: wb
abbrev cM_isVote : ByteArray := prog_8_method_4_code
abbrev yM_isVote : MethodName := ⟨"FinalityTreeModel", "isVote", "(I)Z"⟩
noncomputable def wM_isVote : List Cond := .code yM_isVote cM_isVote 2 (some .boolean) :: wb
abbrev cM_isValidator : ByteArray := prog_8_method_5_code
abbrev yM_isValidator : MethodName := ⟨"FinalityTreeModel", "isValidator", "(I)Z"⟩
noncomputable def wM_isValidator : List Cond := .code yM_isValidator cM_isValidator 2 (some .boolean) :: wb
abbrev cM_isNode : ByteArray := prog_8_method_6_code
abbrev yM_isNode : MethodName := ⟨"FinalityTreeModel", "isNode", "(I)Z"⟩
noncomputable def wM_isNode : List Cond := .code yM_isNode cM_isNode 1 (some .boolean) :: wb
abbrev cM_descends : ByteArray := prog_8_method_7_code
abbrev yM_descends : MethodName := ⟨"FinalityTreeModel", "descends", "(II)Z"⟩
noncomputable def wM_descends : List Cond := .code yM_descends cM_descends 4 (some .boolean) :: wb
abbrev cM_checkpointBlock : ByteArray := prog_8_method_8_code
abbrev yM_checkpointBlock : MethodName := ⟨"FinalityTreeModel", "checkpointBlock", "(II)I"⟩
noncomputable def wM_checkpointBlock : List Cond := .code yM_checkpointBlock cM_checkpointBlock 4 (some .int) :: wb
abbrev cM_clash : ByteArray := prog_8_method_9_code
abbrev yM_clash : MethodName := ⟨"FinalityTreeModel", "clash", "(II)Z"⟩
noncomputable def wM_clash : List Cond := .code yM_clash cM_clash 5 (some .boolean) :: wb
abbrev cM_origin : ByteArray := prog_8_method_10_code
abbrev yM_origin : MethodName := ⟨"FinalityTreeModel", "origin", "()V"⟩
noncomputable def wM_origin : List Cond := .code yM_origin cM_origin 2 none :: wb
abbrev cM_forget : ByteArray := prog_8_method_11_code
abbrev yM_forget : MethodName := ⟨"FinalityTreeModel", "forget", "()V"⟩
noncomputable def wM_forget : List Cond := .code yM_forget cM_forget 2 none :: wb
abbrev cM_advance : ByteArray := prog_8_method_12_code
abbrev yM_advance : MethodName := ⟨"FinalityTreeModel", "advance", "(I)V"⟩
noncomputable def wM_advance : List Cond := .code yM_advance cM_advance 3 none :: wb
abbrev cM_votable : ByteArray := prog_8_method_13_code
abbrev yM_votable : MethodName := ⟨"FinalityTreeModel", "votable", "(III)Z"⟩
noncomputable def wM_votable : List Cond := .code yM_votable cM_votable 6 (some .boolean) :: wb
abbrev cM_weightOf : ByteArray := prog_8_method_14_code
abbrev yM_weightOf : MethodName := ⟨"FinalityTreeModel", "weightOf", "(Z)I"⟩
noncomputable def wM_weightOf : List Cond := .code yM_weightOf cM_weightOf 4 (some .int) :: wb
abbrev cM_count : ByteArray := prog_8_method_15_code
abbrev yM_count : MethodName := ⟨"FinalityTreeModel", "count", "(II)V"⟩
noncomputable def wM_count : List Cond := .code yM_count cM_count 5 none :: wb
abbrev cM_item : ByteArray := prog_8_method_16_code
abbrev yM_item : MethodName := ⟨"FinalityTreeModel", "item", "(III)Z"⟩
noncomputable def wM_item : List Cond := .code yM_item cM_item 6 (some .boolean) :: wb
abbrev cM_make : ByteArray := prog_8_method_17_code
abbrev yM_make : MethodName := ⟨"FinalityTreeModel", "make", "(I)V"⟩
noncomputable def wM_make : List Cond := .code yM_make cM_make 6 none :: wb
abbrev cM_vote : ByteArray := prog_8_method_18_code
abbrev yM_vote : MethodName := ⟨"FinalityTreeModel", "vote", "(III)I"⟩
noncomputable def wM_vote : List Cond := .code yM_vote cM_vote 8 (some .int) :: wb
abbrev cM_append : ByteArray := prog_8_method_19_code
abbrev yM_append : MethodName := ⟨"FinalityTreeModel", "append", "(I)I"⟩
noncomputable def wM_append : List Cond := .code yM_append cM_append 2 (some .int) :: wb
abbrev cM_include : ByteArray := prog_8_method_20_code
abbrev yM_include : MethodName := ⟨"FinalityTreeModel", "include", "(I)I"⟩
noncomputable def wM_include : List Cond := .code yM_include cM_include 2 (some .int) :: wb
abbrev cM_accuse : ByteArray := prog_8_method_21_code
abbrev yM_accuse : MethodName := ⟨"FinalityTreeModel", "accuse", "(II)I"⟩
noncomputable def wM_accuse : List Cond := .code yM_accuse cM_accuse 3 (some .int) :: wb
abbrev cM_clear : ByteArray := prog_8_method_22_code
abbrev yM_clear : MethodName := ⟨"FinalityTreeModel", "clear", "()I"⟩
noncomputable def wM_clear : List Cond := .code yM_clear cM_clear 2 (some .int) :: wb
abbrev cM_propose : ByteArray := prog_8_method_23_code
abbrev yM_propose : MethodName := ⟨"FinalityTreeModel", "propose", "(II)I"⟩
noncomputable def wM_propose : List Cond := .code yM_propose cM_propose 4 (some .int) :: wb
abbrev cM_block : ByteArray := prog_8_method_24_code
abbrev yM_block : MethodName := ⟨"FinalityTreeModel", "block", "(II)I"⟩
noncomputable def wM_block : List Cond := .code yM_block cM_block 3 (some .int) :: wb
abbrev cM_balance : ByteArray := prog_8_method_25_code
abbrev yM_balance : MethodName := ⟨"FinalityTreeModel", "balance", "(II)I"⟩
noncomputable def wM_balance : List Cond := .code yM_balance cM_balance 3 (some .int) :: wb
abbrev cM_punished : ByteArray := prog_8_method_26_code
abbrev yM_punished : MethodName := ⟨"FinalityTreeModel", "punished", "(II)Z"⟩
noncomputable def wM_punished : List Cond := .code yM_punished cM_punished 3 (some .boolean) :: wb
abbrev cM_counted : ByteArray := prog_8_method_27_code
abbrev yM_counted : MethodName := ⟨"FinalityTreeModel", "counted", "(II)I"⟩
noncomputable def wM_counted : List Cond := .code yM_counted cM_counted 3 (some .int) :: wb
abbrev cM_ballot : ByteArray := prog_8_method_28_code
abbrev yM_ballot : MethodName := ⟨"FinalityTreeModel", "ballot", "(II)I"⟩
noncomputable def wM_ballot : List Cond := .code yM_ballot cM_ballot 3 (some .int) :: wb
abbrev cM_hearAll : ByteArray := prog_8_method_29_code
abbrev yM_hearAll : MethodName := ⟨"FinalityTreeModel", "hearAll", "(II)V"⟩
noncomputable def wM_hearAll : List Cond := .code yM_hearAll cM_hearAll 5 none :: wb
abbrev cM_give : ByteArray := prog_8_method_30_code
abbrev yM_give : MethodName := ⟨"FinalityTreeModel", "give", "(II)Z"⟩
noncomputable def wM_give : List Cond := .code yM_give cM_give 5 (some .boolean) :: wb
abbrev cM_hear : ByteArray := prog_8_method_31_code
abbrev yM_hear : MethodName := ⟨"FinalityTreeModel", "hear", "(II)Z"⟩
noncomputable def wM_hear : List Cond := .code yM_hear cM_hear 3 (some .boolean) :: wb
abbrev cM_knows : ByteArray := prog_8_method_32_code
abbrev yM_knows : MethodName := ⟨"FinalityTreeModel", "knows", "(II)Z"⟩
noncomputable def wM_knows : List Cond := .code yM_knows cM_knows 3 (some .boolean) :: wb
abbrev cM_latest : ByteArray := prog_8_method_33_code
abbrev yM_latest : MethodName := ⟨"FinalityTreeModel", "latest", "(II)I"⟩
noncomputable def wM_latest : List Cond := .code yM_latest cM_latest 5 (some .int) :: wb
abbrev cM_support : ByteArray := prog_8_method_34_code
abbrev yM_support : MethodName := ⟨"FinalityTreeModel", "support", "(II)I"⟩
noncomputable def wM_support : List Cond := .code yM_support cM_support 6 (some .int) :: wb
abbrev cM_head : ByteArray := prog_8_method_35_code
abbrev yM_head : MethodName := ⟨"FinalityTreeModel", "head", "(I)I"⟩
noncomputable def wM_head : List Cond := .code yM_head cM_head 8 (some .int) :: wb
abbrev cM_checkpoint : ByteArray := prog_8_method_36_code
abbrev yM_checkpoint : MethodName := ⟨"FinalityTreeModel", "checkpoint", "(II)I"⟩
noncomputable def wM_checkpoint : List Cond := .code yM_checkpoint cM_checkpoint 4 (some .int) :: wb
abbrev cM_conflict : ByteArray := prog_8_method_37_code
abbrev yM_conflict : MethodName := ⟨"FinalityTreeModel", "conflict", "(II)Z"⟩
noncomputable def wM_conflict : List Cond := .code yM_conflict cM_conflict 5 (some .boolean) :: wb
abbrev cM_isHeard : ByteArray := prog_8_method_38_code
abbrev yM_isHeard : MethodName := ⟨"FinalityTreeModel", "isHeard", "(II)Z"⟩
noncomputable def wM_isHeard : List Cond := .code yM_isHeard cM_isHeard 5 (some .boolean) :: wb
abbrev cM_pair : ByteArray := prog_8_method_39_code
abbrev yM_pair : MethodName := ⟨"FinalityTreeModel", "pair", "(IIZ)I"⟩
noncomputable def wM_pair : List Cond := .code yM_pair cM_pair 6 (some .int) :: wb
abbrev cM_guilty : ByteArray := prog_8_method_40_code
abbrev yM_guilty : MethodName := ⟨"FinalityTreeModel", "guilty", "(IZ)I"⟩
noncomputable def wM_guilty : List Cond := .code yM_guilty cM_guilty 5 (some .int) :: wb
abbrev cM_proof : ByteArray := prog_8_method_41_code
abbrev yM_proof : MethodName := ⟨"FinalityTreeModel", "proof", "(I)I"⟩
noncomputable def wM_proof : List Cond := .code yM_proof cM_proof 3 (some .int) :: wb
abbrev cB_init : ByteArray := prog_2_method_1_code
abbrev yB_init : MethodName := ⟨"FinalityTree$Block", "<init>", "()V"⟩
noncomputable def wB_init : List Cond := .code yB_init cB_init 1 none :: wb
abbrev cI_init : ByteArray := prog_3_method_1_code
abbrev yI_init : MethodName := ⟨"FinalityTree$Items", "<init>", "()V"⟩
noncomputable def wI_init : List Cond := .code yI_init cI_init 1 none :: wb
abbrev cI_append : ByteArray := prog_3_method_2_code
abbrev yI_append : MethodName := ⟨"FinalityTree$Items", "append", "(II)I"⟩
noncomputable def wI_append : List Cond := .code yI_append cI_append 3 (some .int) :: wb
abbrev cI_copyFrom : ByteArray := prog_3_method_3_code
abbrev yI_copyFrom : MethodName := ⟨"FinalityTree$Items", "copyFrom", "(LFinalityTree$Items;)V"⟩
noncomputable def wI_copyFrom : List Cond := .code yI_copyFrom cI_copyFrom 2 none :: wb
abbrev cN_init : ByteArray := prog_4_method_1_code
abbrev yN_init : MethodName := ⟨"FinalityTree$Node", "<init>", "()V"⟩
noncomputable def wN_init : List Cond := .code yN_init cN_init 2 none :: wb
abbrev cN_isKnown : ByteArray := prog_4_method_2_code
abbrev yN_isKnown : MethodName := ⟨"FinalityTree$Node", "isKnown", "(I)Z"⟩
noncomputable def wN_isKnown : List Cond := .code yN_isKnown cN_isKnown 2 (some .boolean) :: wb
abbrev cS_init : ByteArray := prog_5_method_1_code
abbrev yS_init : MethodName := ⟨"FinalityTree$State", "<init>", "()V"⟩
noncomputable def wS_init : List Cond := .code yS_init cS_init 2 none :: wb
abbrev cS_copyFrom : ByteArray := prog_5_method_2_code
abbrev yS_copyFrom : MethodName := ⟨"FinalityTree$State", "copyFrom", "(LFinalityTree$State;)V"⟩
noncomputable def wS_copyFrom : List Cond := .code yS_copyFrom cS_copyFrom 2 none :: wb
abbrev cS_passTo : ByteArray := prog_5_method_3_code
abbrev yS_passTo : MethodName := ⟨"FinalityTree$State", "passTo", "(II)V"⟩
noncomputable def wS_passTo : List Cond := .code yS_passTo cS_passTo 4 none :: wb
abbrev cS_countedFor : ByteArray := prog_5_method_4_code
abbrev yS_countedFor : MethodName := ⟨"FinalityTree$State", "countedFor", "(I)I"⟩
noncomputable def wS_countedFor : List Cond := .code yS_countedFor cS_countedFor 2 (some .int) :: wb
abbrev cS_addCounted : ByteArray := prog_5_method_5_code
abbrev yS_addCounted : MethodName := ⟨"FinalityTree$State", "addCounted", "(II)V"⟩
noncomputable def wS_addCounted : List Cond := .code yS_addCounted cS_addCounted 3 none :: wb
abbrev cS_justify : ByteArray := prog_5_method_6_code
abbrev yS_justify : MethodName := ⟨"FinalityTree$State", "justify", "(II)V"⟩
noncomputable def wS_justify : List Cond := .code yS_justify cS_justify 3 none :: wb
abbrev cV_init : ByteArray := prog_6_method_1_code
abbrev yV_init : MethodName := ⟨"FinalityTree$Vote", "<init>", "()V"⟩
noncomputable def wV_init : List Cond := .code yV_init cV_init 1 none :: wb
abbrev cV_surrounds : ByteArray := prog_6_method_2_code
abbrev yV_surrounds : MethodName := ⟨"FinalityTree$Vote", "surrounds", "(LFinalityTree$Vote;)Z"⟩
noncomputable def wV_surrounds : List Cond := .code yV_surrounds cV_surrounds 2 (some .boolean) :: wb
abbrev cL_cell : ByteArray := method_2_code
abbrev yL_cell : MethodName := ⟨"FinalityTreeLaw", "cell", "([II)I"⟩
noncomputable def wL_cell : List Cond := .code yL_cell cL_cell 2 (some .int) :: wb
def nL : List (String × Nat × MethodName × String) := [("FinalityTree", 38, ⟨"FinalityTree$Block", "<init>", "()V"⟩, "FinalityTree"), ("FinalityTree$Block", 21, ⟨"FinalityTree$Items", "<init>", "()V"⟩, "FinalityTree"), ("FinalityTree", 45, ⟨"FinalityTree$Vote", "<init>", "()V"⟩, "FinalityTree"), ("FinalityTree", 55, ⟨"FinalityTree$Items", "<init>", "()V"⟩, "FinalityTree"), ("FinalityTree$Vote", 13, ⟨"FinalityTree", "epochOf", "(I)I"⟩, "FinalityTree"), ("FinalityTree$State", 40, ⟨"FinalityTree", "isIn", "(II)Z"⟩, "FinalityTree"), ("FinalityTree$State", 44, ⟨"FinalityTree", "epochOf", "(I)I"⟩, "FinalityTree")]
