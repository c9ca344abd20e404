def kR_S : String := "BusSleep"
def kR_B : String := "BusSleep$Bus"
def kR_N : String := "BusSleep$Node"
def kR_M : String := "BusSleepModel"
def kR_L : String := "BusSleepLaw"
def kR_I : String := "java/lang/Integer"
def kR_H : String := "java/lang/Math"
def kR_O : String := "java/lang/Object"
def kT_B : u_T := fun k => match k with
  | 0 => ("BusSleep$Bus", "members", "[LBusSleep$Node;", true)
  | 1 => ("BusSleep$Bus", "called", "[J", true)
  | 2 => ("BusSleep$Bus", "group", "I", false)
  | _ => ("BusSleep$Bus", "keepingAwake", "I", false)
def kt_B : Nat → FieldType := fun k => match k with
  | 0 => .array (.object "BusSleep$Node")
  | 1 => .array .long
  | 2 => .int
  | _ => .int
theorem kn_B : ∀ a, a < 4 → ∀ b, b < 4 → a ≠ b → (kT_B a).2.1 ≠ (kT_B b).2.1 := by decide +kernel
theorem ko_B : ∀ k, k < 4 → parseFieldDescriptor (kT_B k).2.2.1 = some (kt_B k) := by decide +kernel
def kT_N : u_T := fun k => match k with
  | 0 => ("BusSleep$Node", "number", "I", true)
  | 1 => ("BusSleep$Node", "bus", "LBusSleep$Bus;", true)
  | 2 => ("BusSleep$Node", "state", "I", false)
  | 3 => ("BusSleep$Node", "since", "J", false)
  | 4 => ("BusSleep$Node", "heard", "J", false)
  | 5 => ("BusSleep$Node", "nextRow", "J", false)
  | 6 => ("BusSleep$Node", "asked", "Z", false)
  | 7 => ("BusSleep$Node", "passive", "Z", false)
  | 8 => ("BusSleep$Node", "out", "Z", false)
  | _ => ("BusSleep$Node", "bits", "I", false)
def kt_N : Nat → FieldType := fun k => match k with
  | 0 => .int
  | 1 => .object "BusSleep$Bus"
  | 2 => .int
  | 3 => .long
  | 4 => .long
  | 5 => .long
  | 6 => .boolean
  | 7 => .boolean
  | 8 => .boolean
  | _ => .int
theorem kn_N : ∀ a, a < 10 → ∀ b, b < 10 → a ≠ b → (kT_N a).2.1 ≠ (kT_N b).2.1 := by decide +kernel
theorem ko_N : ∀ k, k < 10 → parseFieldDescriptor (kT_N k).2.2.1 = some (kt_N k) := by decide +kernel
def kT_S : u_T := fun k => match k with
  | 0 => ("BusSleep", "nodes", "[LBusSleep$Node;", true)
  | 1 => ("BusSleep", "buses", "[LBusSleep$Bus;", true)
  | 2 => ("BusSleep", "now", "J", false)
  | _ => ("BusSleep", "changes", "I", false)
def kt_S : Nat → FieldType := fun k => match k with
  | 0 => .array (.object "BusSleep$Node")
  | 1 => .array (.object "BusSleep$Bus")
  | 2 => .long
  | _ => .int
theorem kn_S : ∀ a, a < 4 → ∀ b, b < 4 → a ≠ b → (kT_S a).2.1 ≠ (kT_S b).2.1 := by decide +kernel
theorem ko_S : ∀ k, k < 4 → parseFieldDescriptor (kT_S k).2.2.1 = some (kt_S k) := by decide +kernel
def kT_M : u_T := fun k => match k with
  | 0 => ("BusSleepModel", "code", "I", false)
  | 1 => ("BusSleepModel", "nodes", "I", true)
  | 2 => ("BusSleepModel", "state", "[I", true)
  | 3 => ("BusSleepModel", "asked", "[Z", true)
  | 4 => ("BusSleepModel", "passive", "[Z", true)
  | 5 => ("BusSleepModel", "out", "[Z", true)
  | 6 => ("BusSleepModel", "bits", "[I", true)
  | 7 => ("BusSleepModel", "since", "[J", true)
  | 8 => ("BusSleepModel", "heard", "[J", true)
  | 9 => ("BusSleepModel", "sent", "[J", true)
  | 10 => ("BusSleepModel", "first", "[Z", true)
  | 11 => ("BusSleepModel", "woke", "[J", true)
  | 12 => ("BusSleepModel", "name", "[I", true)
  | 13 => ("BusSleepModel", "called", "[J", true)
  | 14 => ("BusSleepModel", "ever", "[Z", true)
  | 15 => ("BusSleepModel", "now", "J", false)
  | _ => ("BusSleepModel", "changes", "I", false)
def kt_M : Nat → FieldType := fun k => match k with
  | 0 => .int
  | 1 => .int
  | 2 => .array .int
  | 3 => .array .boolean
  | 4 => .array .boolean
  | 5 => .array .boolean
  | 6 => .array .int
  | 7 => .array .long
  | 8 => .array .long
  | 9 => .array .long
  | 10 => .array .boolean
  | 11 => .array .long
  | 12 => .array .int
  | 13 => .array .long
  | 14 => .array .boolean
  | 15 => .long
  | _ => .int
theorem kn_M : ∀ a, a < 17 → ∀ b, b < 17 → a ≠ b → (kT_M a).2.1 ≠ (kT_M b).2.1 := by decide +kernel
theorem ko_M : ∀ k, k < 17 → parseFieldDescriptor (kT_M k).2.2.1 = some (kt_M k) := by decide +kernel
abbrev kCl : List vw_C := [(kR_B, kT_B, 4), (kR_N, kT_N, 10), (kR_S, kT_S, 4), (kR_M, kT_M, 17)]
abbrev kc_S_init : ByteArray := prog_1_method_1_code
def ky_S_init : MethodName := ⟨"BusSleep", "<init>", "(I)V"⟩
abbrev kc_O_init : ByteArray := object_method_1_code
def ky_O_init : MethodName := ⟨"java/lang/Object", "<init>", "()V"⟩
abbrev kc_H_min : ByteArray := prog_7_method_69_code
def ky_H_min : MethodName := ⟨"java/lang/Math", "min", "(II)I"⟩
abbrev kc_B_init : ByteArray := prog_2_method_1_code
def ky_B_init : MethodName := ⟨"BusSleep$Bus", "<init>", "(II)V"⟩
abbrev kc_H_max : ByteArray := prog_7_method_65_code
def ky_H_max : MethodName := ⟨"java/lang/Math", "max", "(II)I"⟩
abbrev kc_N_init : ByteArray := prog_3_method_1_code
def ky_N_init : MethodName := ⟨"BusSleep$Node", "<init>", "(ILBusSleep$Bus;)V"⟩
abbrev kc_S_request : ByteArray := prog_1_method_2_code
def ky_S_request : MethodName := ⟨"BusSleep", "request", "(IZ)I"⟩
abbrev kc_S_isNode : ByteArray := prog_1_method_14_code
def ky_S_isNode : MethodName := ⟨"BusSleep", "isNode", "(I)Z"⟩
abbrev kc_N_wants : ByteArray := prog_3_method_2_code
def ky_N_wants : MethodName := ⟨"BusSleep$Node", "wants", "()Z"⟩
abbrev kc_N_canWake : ByteArray := prog_3_method_4_code
def ky_N_canWake : MethodName := ⟨"BusSleep$Node", "canWake", "()Z"⟩
abbrev kc_S_wakeUp : ByteArray := prog_1_method_23_code
def ky_S_wakeUp : MethodName := ⟨"BusSleep", "wakeUp", "(LBusSleep$Node;)V"⟩
abbrev kc_S_comeTo : ByteArray := prog_1_method_24_code
def ky_S_comeTo : MethodName := ⟨"BusSleep", "comeTo", "(LBusSleep$Node;I)V"⟩
abbrev kc_N_keepsAwake : ByteArray := prog_3_method_3_code
def ky_N_keepsAwake : MethodName := ⟨"BusSleep$Node", "keepsAwake", "()Z"⟩
abbrev kc_S_alive : ByteArray := prog_1_method_3_code
def ky_S_alive : MethodName := ⟨"BusSleep", "alive", "(IJ)I"⟩
abbrev kc_S_isTime : ByteArray := prog_1_method_16_code
def ky_S_isTime : MethodName := ⟨"BusSleep", "isTime", "(J)Z"⟩
abbrev kc_S_goOn : ByteArray := prog_1_method_17_code
def ky_S_goOn : MethodName := ⟨"BusSleep", "goOn", "(J)V"⟩
abbrev kc_S_sleeps : ByteArray := prog_1_method_13_code
def ky_S_sleeps : MethodName := ⟨"BusSleep", "sleeps", "()Z"⟩
abbrev kc_S_changeStates : ByteArray := prog_1_method_18_code
def ky_S_changeStates : MethodName := ⟨"BusSleep", "changeStates", "()V"⟩
abbrev kc_S_changeState : ByteArray := prog_1_method_19_code
def ky_S_changeState : MethodName := ⟨"BusSleep", "changeState", "(LBusSleep$Node;)V"⟩
abbrev kc_S_isStill : ByteArray := prog_1_method_25_code
def ky_S_isStill : MethodName := ⟨"BusSleep", "isStill", "(I)Z"⟩
abbrev kc_S_sendRows : ByteArray := prog_1_method_20_code
def ky_S_sendRows : MethodName := ⟨"BusSleep", "sendRows", "()V"⟩
abbrev kc_S_sendRow : ByteArray := prog_1_method_21_code
def ky_S_sendRow : MethodName := ⟨"BusSleep", "sendRow", "(LBusSleep$Node;)I"⟩
abbrev kc_S_hear : ByteArray := prog_1_method_22_code
def ky_S_hear : MethodName := ⟨"BusSleep", "hear", "(LBusSleep$Node;)V"⟩
abbrev kc_S_callBits : ByteArray := prog_1_method_26_code
def ky_S_callBits : MethodName := ⟨"BusSleep", "callBits", "(LBusSleep$Bus;I)V"⟩
abbrev kc_S_tick : ByteArray := prog_1_method_4_code
def ky_S_tick : MethodName := ⟨"BusSleep", "tick", "(J)I"⟩
abbrev kc_S_state : ByteArray := prog_1_method_5_code
def ky_S_state : MethodName := ⟨"BusSleep", "state", "(I)I"⟩
abbrev kc_S_wake : ByteArray := prog_1_method_6_code
def ky_S_wake : MethodName := ⟨"BusSleep", "wake", "(IJ)I"⟩
abbrev kc_S_bit : ByteArray := prog_1_method_7_code
def ky_S_bit : MethodName := ⟨"BusSleep", "bit", "(IIZ)I"⟩
abbrev kc_I_bitCount : ByteArray := prog_6_method_49_code
def ky_I_bitCount : MethodName := ⟨"java/lang/Integer", "bitCount", "(I)I"⟩
abbrev kc_S_needs : ByteArray := prog_1_method_8_code
def ky_S_needs : MethodName := ⟨"BusSleep", "needs", "(IJ)I"⟩
abbrev kc_S_wasCalled : ByteArray := prog_1_method_27_code
def ky_S_wasCalled : MethodName := ⟨"BusSleep", "wasCalled", "(LBusSleep$Bus;I)Z"⟩
abbrev kc_S_coordinate : ByteArray := prog_1_method_9_code
def ky_S_coordinate : MethodName := ⟨"BusSleep", "coordinate", "(II)I"⟩
abbrev kc_S_isBus : ByteArray := prog_1_method_15_code
def ky_S_isBus : MethodName := ⟨"BusSleep", "isBus", "(I)Z"⟩
abbrev kc_S_passive : ByteArray := prog_1_method_10_code
def ky_S_passive : MethodName := ⟨"BusSleep", "passive", "(IZ)I"⟩
abbrev kc_S_never : ByteArray := prog_1_method_11_code
def ky_S_never : MethodName := ⟨"BusSleep", "never", "(I)I"⟩
abbrev kc_S_limp : ByteArray := prog_1_method_12_code
def ky_S_limp : MethodName := ⟨"BusSleep", "limp", "(IJ)I"⟩
abbrev kc_L_cell : ByteArray := method_2_code
def ky_L_cell : MethodName := ⟨"BusSleepLaw", "cell", "([II)I"⟩
abbrev kc_M_init : ByteArray := prog_5_method_1_code
def ky_M_init : MethodName := ⟨"BusSleepModel", "<init>", "(I)V"⟩
abbrev kc_M_request : ByteArray := prog_5_method_14_code
def ky_M_request : MethodName := ⟨"BusSleepModel", "request", "(IZ)I"⟩
abbrev kc_M_none : ByteArray := prog_5_method_3_code
def ky_M_none : MethodName := ⟨"BusSleepModel", "none", "(I)Z"⟩
abbrev kc_M_wants : ByteArray := prog_5_method_5_code
def ky_M_wants : MethodName := ⟨"BusSleepModel", "wants", "(I)Z"⟩
abbrev kc_M_wakes : ByteArray := prog_5_method_7_code
def ky_M_wakes : MethodName := ⟨"BusSleepModel", "wakes", "(I)V"⟩
abbrev kc_M_become : ByteArray := prog_5_method_6_code
def ky_M_become : MethodName := ⟨"BusSleepModel", "become", "(II)V"⟩
abbrev kc_M_alive : ByteArray := prog_5_method_15_code
def ky_M_alive : MethodName := ⟨"BusSleepModel", "alive", "(IJ)I"⟩
abbrev kc_M_bad : ByteArray := prog_5_method_12_code
def ky_M_bad : MethodName := ⟨"BusSleepModel", "bad", "(J)Z"⟩
abbrev kc_M_go : ByteArray := prog_5_method_13_code
def ky_M_go : MethodName := ⟨"BusSleepModel", "go", "(J)V"⟩
abbrev kc_M_oneTick : ByteArray := prog_5_method_11_code
def ky_M_oneTick : MethodName := ⟨"BusSleepModel", "oneTick", "()V"⟩
abbrev kc_M_still : ByteArray := prog_5_method_10_code
def ky_M_still : MethodName := ⟨"BusSleepModel", "still", "(I)Z"⟩
abbrev kc_M_bus : ByteArray := prog_5_method_4_code
def ky_M_bus : MethodName := ⟨"BusSleepModel", "bus", "(I)I"⟩
abbrev kc_M_one : ByteArray := prog_5_method_9_code
def ky_M_one : MethodName := ⟨"BusSleepModel", "one", "(II)Z"⟩
abbrev kc_M_row : ByteArray := prog_5_method_8_code
def ky_M_row : MethodName := ⟨"BusSleepModel", "row", "(I)I"⟩
abbrev kc_M_tick : ByteArray := prog_5_method_16_code
def ky_M_tick : MethodName := ⟨"BusSleepModel", "tick", "(J)I"⟩
abbrev kc_M_state : ByteArray := prog_5_method_17_code
def ky_M_state : MethodName := ⟨"BusSleepModel", "state", "(I)I"⟩
abbrev kc_M_wake : ByteArray := prog_5_method_18_code
def ky_M_wake : MethodName := ⟨"BusSleepModel", "wake", "(IJ)I"⟩
abbrev kc_M_bit : ByteArray := prog_5_method_19_code
def ky_M_bit : MethodName := ⟨"BusSleepModel", "bit", "(IIZ)I"⟩
abbrev kc_M_needs : ByteArray := prog_5_method_20_code
def ky_M_needs : MethodName := ⟨"BusSleepModel", "needs", "(IJ)I"⟩
abbrev kc_M_coordinate : ByteArray := prog_5_method_21_code
def ky_M_coordinate : MethodName := ⟨"BusSleepModel", "coordinate", "(II)I"⟩
abbrev kc_M_passive : ByteArray := prog_5_method_22_code
def ky_M_passive : MethodName := ⟨"BusSleepModel", "passive", "(IZ)I"⟩
abbrev kc_M_never : ByteArray := prog_5_method_23_code
def ky_M_never : MethodName := ⟨"BusSleepModel", "never", "(I)I"⟩
abbrev kc_M_limp : ByteArray := prog_5_method_24_code
def ky_M_limp : MethodName := ⟨"BusSleepModel", "limp", "(IJ)I"⟩
abbrev kc_M_sleeps : ByteArray := prog_5_method_25_code
def ky_M_sleeps : MethodName := ⟨"BusSleepModel", "sleeps", "()Z"⟩
def kB_l : List Cond := lw_tbl.filter goodWord
theorem kB_good {w : Cond} (h : w ∈ kB_l) : (w.onTables && w.keeps) = true ∨ ∃ ty, w = .arrayClass ty := good_of_word (List.mem_filter.mp h).2
theorem kB_of {w : Cond} (h : w ∈ lw_tbl) (g : goodWord w = true) : w ∈ kB_l := List.mem_filter.mpr ⟨h, g⟩
theorem kw_0 : Cond.initialized "BusSleepLaw" ∈ kB_l := kB_of (List.mem_append_right _ (List.mem_append_left _ (List.mem_of_getElem? (i := 0) rfl))) rfl
theorem kw_1 : Cond.initialized "BusSleep" ∈ kB_l := kB_of (List.mem_append_right _ (List.mem_append_left _ (List.mem_of_getElem? (i := 1) rfl))) rfl
theorem kw_2 : Cond.initialized "BusSleep$Bus" ∈ kB_l := kB_of (List.mem_append_right _ (List.mem_append_left _ (List.mem_of_getElem? (i := 2) rfl))) rfl
theorem kw_3 : Cond.initialized "java/lang/Math" ∈ kB_l := kB_of (List.mem_append_right _ (List.mem_append_left _ (List.mem_of_getElem? (i := 3) rfl))) rfl
theorem kw_4 : Cond.initialized "BusSleep$Node" ∈ kB_l := kB_of (List.mem_append_right _ (List.mem_append_left _ (List.mem_of_getElem? (i := 4) rfl))) rfl
theorem kw_5 : Cond.initialized "BusSleepModel" ∈ kB_l := kB_of (List.mem_append_right _ (List.mem_append_left _ (List.mem_of_getElem? (i := 5) rfl))) rfl
theorem kw_6 : Cond.initialized "java/lang/Integer" ∈ kB_l := kB_of (List.mem_append_right _ (List.mem_append_left _ (List.mem_of_getElem? (i := 6) rfl))) rfl
theorem kw_7 : Cond.classLink "BusSleepLaw" 7 "BusSleep" ∈ kB_l := kB_of (List.mem_append_right _ (List.mem_append_left _ (List.mem_of_getElem? (i := 7) rfl))) rfl
theorem kw_8 : Cond.instantiable "BusSleep" 4 ∈ kB_l := kB_of (List.mem_append_right _ (List.mem_append_left _ (List.mem_of_getElem? (i := 8) rfl))) rfl
theorem kw_9 : Cond.methodLink "BusSleepLaw" 15 ⟨"BusSleep", "<init>", "(I)V"⟩ ∈ kB_l := kB_of (List.mem_append_right _ (List.mem_append_left _ (List.mem_of_getElem? (i := 9) rfl))) rfl
theorem kw_10 : Cond.instanceMethod ⟨"BusSleep", "<init>", "(I)V"⟩ ∈ kB_l := kB_of (List.mem_append_right _ (List.mem_append_left _ (List.mem_of_getElem? (i := 10) rfl))) rfl
theorem kw_11 : Cond.code ⟨"BusSleep", "<init>", "(I)V"⟩ prog_1_method_1_code 8 none ∈ kB_l := kB_of (List.mem_append_right _ (List.mem_append_left _ (List.mem_of_getElem? (i := 11) rfl))) rfl
theorem kw_12 : Cond.methodLink "BusSleep" 1 ⟨"java/lang/Object", "<init>", "()V"⟩ ∈ kB_l := kB_of (List.mem_append_right _ (List.mem_append_left _ (List.mem_of_getElem? (i := 12) rfl))) rfl
theorem kw_13 : Cond.instanceMethod ⟨"java/lang/Object", "<init>", "()V"⟩ ∈ kB_l := kB_of (List.mem_append_right _ (List.mem_append_left _ (List.mem_of_getElem? (i := 13) rfl))) rfl
theorem kw_14 : Cond.code ⟨"java/lang/Object", "<init>", "()V"⟩ object_method_1_code 1 none ∈ kB_l := kB_of (List.mem_append_right _ (List.mem_append_left _ (List.mem_of_getElem? (i := 14) rfl))) rfl
theorem kw_15 : Cond.classLink "BusSleep" 9 "BusSleep$Node" ∈ kB_l := kB_of (List.mem_append_right _ (List.mem_append_left _ (List.mem_of_getElem? (i := 15) rfl))) rfl
theorem kw_16 : Cond.arrayOver (FieldType.object "BusSleep$Node") ∈ lw_tbl := List.mem_append_right _ (List.mem_append_left _ (List.mem_of_getElem? (i := 16) rfl))
theorem kw_17 : Cond.classLink "BusSleep" 15 "BusSleep$Bus" ∈ kB_l := kB_of (List.mem_append_right _ (List.mem_append_left _ (List.mem_of_getElem? (i := 17) rfl))) rfl
theorem kw_18 : Cond.arrayOver (FieldType.object "BusSleep$Bus") ∈ lw_tbl := List.mem_append_right _ (List.mem_append_left _ (List.mem_of_getElem? (i := 18) rfl))
theorem kw_19 : Cond.instantiable "BusSleep$Bus" 4 ∈ kB_l := kB_of (List.mem_append_right _ (List.mem_append_left _ (List.mem_of_getElem? (i := 19) rfl))) rfl
theorem kw_20 : Cond.methodLink "BusSleep" 21 ⟨"java/lang/Math", "min", "(II)I"⟩ ∈ kB_l := kB_of (List.mem_append_right _ (List.mem_append_left _ (List.mem_of_getElem? (i := 20) rfl))) rfl
theorem kw_21 : Cond.static ⟨"java/lang/Math", "min", "(II)I"⟩ ∈ kB_l := kB_of (List.mem_append_right _ (List.mem_append_left _ (List.mem_of_getElem? (i := 21) rfl))) rfl
theorem kw_22 : Cond.code ⟨"java/lang/Math", "min", "(II)I"⟩ prog_7_method_69_code 2 (some .int) ∈ kB_l := kB_of (List.mem_append_right _ (List.mem_append_left _ (List.mem_of_getElem? (i := 22) rfl))) rfl
theorem kw_23 : Cond.methodLink "BusSleep" 27 ⟨"BusSleep$Bus", "<init>", "(II)V"⟩ ∈ kB_l := kB_of (List.mem_append_right _ (List.mem_append_left _ (List.mem_of_getElem? (i := 23) rfl))) rfl
theorem kw_24 : Cond.instanceMethod ⟨"BusSleep$Bus", "<init>", "(II)V"⟩ ∈ kB_l := kB_of (List.mem_append_right _ (List.mem_append_left _ (List.mem_of_getElem? (i := 24) rfl))) rfl
theorem kw_25 : Cond.code ⟨"BusSleep$Bus", "<init>", "(II)V"⟩ prog_2_method_1_code 4 none ∈ kB_l := kB_of (List.mem_append_right _ (List.mem_append_left _ (List.mem_of_getElem? (i := 25) rfl))) rfl
theorem kw_26 : Cond.methodLink "BusSleep$Bus" 3 ⟨"java/lang/Object", "<init>", "()V"⟩ ∈ kB_l := kB_of (List.mem_append_right _ (List.mem_append_left _ (List.mem_of_getElem? (i := 26) rfl))) rfl
theorem kw_27 : Cond.methodLink "BusSleep$Bus" 15 ⟨"java/lang/Math", "max", "(II)I"⟩ ∈ kB_l := kB_of (List.mem_append_right _ (List.mem_append_left _ (List.mem_of_getElem? (i := 27) rfl))) rfl
theorem kw_28 : Cond.static ⟨"java/lang/Math", "max", "(II)I"⟩ ∈ kB_l := kB_of (List.mem_append_right _ (List.mem_append_left _ (List.mem_of_getElem? (i := 28) rfl))) rfl
theorem kw_29 : Cond.code ⟨"java/lang/Math", "max", "(II)I"⟩ prog_7_method_65_code 2 (some .int) ∈ kB_l := kB_of (List.mem_append_right _ (List.mem_append_left _ (List.mem_of_getElem? (i := 29) rfl))) rfl
theorem kw_30 : Cond.classLink "BusSleep$Bus" 21 "BusSleep$Node" ∈ kB_l := kB_of (List.mem_append_right _ (List.mem_append_left _ (List.mem_of_getElem? (i := 30) rfl))) rfl
theorem kw_31 : Cond.constantLong "BusSleep$Bus" 31 (-1000 : Int64) ∈ kB_l := kB_of (List.mem_append_right _ (List.mem_append_left _ (List.mem_of_getElem? (i := 31) rfl))) rfl
theorem kw_32 : Cond.fieldLink "BusSleep$Bus" 23 "BusSleep$Bus" "members" "[LBusSleep$Node;" ∈ kB_l := kB_of (List.mem_append_right _ (List.mem_append_left _ (List.mem_of_getElem? (i := 32) rfl))) rfl
theorem kw_33 : Cond.fieldLink "BusSleep" 30 "BusSleep$Bus" "members" "[LBusSleep$Node;" ∈ kB_l := kB_of (List.mem_append_right _ (List.mem_append_left _ (List.mem_of_getElem? (i := 33) rfl))) rfl
theorem kw_34 : Cond.fieldLink "BusSleep$Bus" 27 "BusSleep$Bus" "called" "[J" ∈ kB_l := kB_of (List.mem_append_right _ (List.mem_append_left _ (List.mem_of_getElem? (i := 34) rfl))) rfl
theorem kw_35 : Cond.fieldLink "BusSleep" 163 "BusSleep$Bus" "called" "[J" ∈ kB_l := kB_of (List.mem_append_right _ (List.mem_append_left _ (List.mem_of_getElem? (i := 35) rfl))) rfl
theorem kw_36 : Cond.fieldLink "BusSleep$Bus" 9 "BusSleep$Bus" "group" "I" ∈ kB_l := kB_of (List.mem_append_right _ (List.mem_append_left _ (List.mem_of_getElem? (i := 36) rfl))) rfl
theorem kw_37 : Cond.fieldLink "BusSleep" 92 "BusSleep$Bus" "group" "I" ∈ kB_l := kB_of (List.mem_append_right _ (List.mem_append_left _ (List.mem_of_getElem? (i := 37) rfl))) rfl
theorem kw_38 : Cond.fieldLink "BusSleep" 158 "BusSleep$Bus" "keepingAwake" "I" ∈ kB_l := kB_of (List.mem_append_right _ (List.mem_append_left _ (List.mem_of_getElem? (i := 38) rfl))) rfl
theorem kw_39 : Cond.laysFinal "BusSleep$Bus" "BusSleep$Bus" "members" "[LBusSleep$Node;" ∈ kB_l := kB_of (List.mem_append_right _ (List.mem_append_left _ (List.mem_of_getElem? (i := 39) rfl))) rfl
theorem kw_41 : Cond.laysFinal "BusSleep$Bus" "BusSleep$Bus" "called" "[J" ∈ kB_l := kB_of (List.mem_append_right _ (List.mem_append_left _ (List.mem_of_getElem? (i := 41) rfl))) rfl
theorem kw_43 : Cond.lays "BusSleep$Bus" "BusSleep$Bus" "group" "I" ∈ kB_l := kB_of (List.mem_append_right _ (List.mem_append_left _ (List.mem_of_getElem? (i := 43) rfl))) rfl
theorem kw_45 : Cond.lays "BusSleep$Bus" "BusSleep$Bus" "keepingAwake" "I" ∈ kB_l := kB_of (List.mem_append_right _ (List.mem_append_left _ (List.mem_of_getElem? (i := 45) rfl))) rfl
theorem kw_47 : Cond.superclass "BusSleep$Bus" "java/lang/Object" ∈ kB_l := kB_of (List.mem_append_right _ (List.mem_append_left _ (List.mem_of_getElem? (i := 47) rfl))) rfl
theorem kw_48 : Cond.arrayClass FieldType.long ∈ kB_l := kB_of (List.mem_append_right _ (List.mem_append_left _ (List.mem_of_getElem? (i := 48) rfl))) rfl
theorem kw_49 : Cond.instantiable "BusSleep$Node" 10 ∈ kB_l := kB_of (List.mem_append_right _ (List.mem_append_left _ (List.mem_of_getElem? (i := 49) rfl))) rfl
theorem kw_50 : Cond.methodLink "BusSleep" 33 ⟨"BusSleep$Node", "<init>", "(ILBusSleep$Bus;)V"⟩ ∈ kB_l := kB_of (List.mem_append_right _ (List.mem_append_left _ (List.mem_of_getElem? (i := 50) rfl))) rfl
theorem kw_51 : Cond.instanceMethod ⟨"BusSleep$Node", "<init>", "(ILBusSleep$Bus;)V"⟩ ∈ kB_l := kB_of (List.mem_append_right _ (List.mem_append_left _ (List.mem_of_getElem? (i := 51) rfl))) rfl
theorem kw_52 : Cond.code ⟨"BusSleep$Node", "<init>", "(ILBusSleep$Bus;)V"⟩ prog_3_method_1_code 3 none ∈ kB_l := kB_of (List.mem_append_right _ (List.mem_append_left _ (List.mem_of_getElem? (i := 52) rfl))) rfl
theorem kw_53 : Cond.methodLink "BusSleep$Node" 3 ⟨"java/lang/Object", "<init>", "()V"⟩ ∈ kB_l := kB_of (List.mem_append_right _ (List.mem_append_left _ (List.mem_of_getElem? (i := 53) rfl))) rfl
theorem kw_54 : Cond.fieldLink "BusSleep$Node" 9 "BusSleep$Node" "number" "I" ∈ kB_l := kB_of (List.mem_append_right _ (List.mem_append_left _ (List.mem_of_getElem? (i := 54) rfl))) rfl
theorem kw_55 : Cond.fieldLink "BusSleep" 80 "BusSleep$Node" "number" "I" ∈ kB_l := kB_of (List.mem_append_right _ (List.mem_append_left _ (List.mem_of_getElem? (i := 55) rfl))) rfl
theorem kw_56 : Cond.fieldLink "BusSleep$Node" 15 "BusSleep$Node" "bus" "LBusSleep$Bus;" ∈ kB_l := kB_of (List.mem_append_right _ (List.mem_append_left _ (List.mem_of_getElem? (i := 56) rfl))) rfl
theorem kw_57 : Cond.fieldLink "BusSleep" 95 "BusSleep$Node" "bus" "LBusSleep$Bus;" ∈ kB_l := kB_of (List.mem_append_right _ (List.mem_append_left _ (List.mem_of_getElem? (i := 57) rfl))) rfl
theorem kw_58 : Cond.fieldLink "BusSleep" 58 "BusSleep$Node" "state" "I" ∈ kB_l := kB_of (List.mem_append_right _ (List.mem_append_left _ (List.mem_of_getElem? (i := 58) rfl))) rfl
theorem kw_59 : Cond.fieldLink "BusSleep$Node" 26 "BusSleep$Node" "state" "I" ∈ kB_l := kB_of (List.mem_append_right _ (List.mem_append_left _ (List.mem_of_getElem? (i := 59) rfl))) rfl
theorem kw_60 : Cond.fieldLink "BusSleep" 110 "BusSleep$Node" "since" "J" ∈ kB_l := kB_of (List.mem_append_right _ (List.mem_append_left _ (List.mem_of_getElem? (i := 60) rfl))) rfl
theorem kw_61 : Cond.fieldLink "BusSleep" 148 "BusSleep$Node" "heard" "J" ∈ kB_l := kB_of (List.mem_append_right _ (List.mem_append_left _ (List.mem_of_getElem? (i := 61) rfl))) rfl
theorem kw_62 : Cond.fieldLink "BusSleep" 143 "BusSleep$Node" "nextRow" "J" ∈ kB_l := kB_of (List.mem_append_right _ (List.mem_append_left _ (List.mem_of_getElem? (i := 62) rfl))) rfl
theorem kw_63 : Cond.fieldLink "BusSleep$Node" 19 "BusSleep$Node" "asked" "Z" ∈ kB_l := kB_of (List.mem_append_right _ (List.mem_append_left _ (List.mem_of_getElem? (i := 63) rfl))) rfl
theorem kw_64 : Cond.fieldLink "BusSleep" 44 "BusSleep$Node" "asked" "Z" ∈ kB_l := kB_of (List.mem_append_right _ (List.mem_append_left _ (List.mem_of_getElem? (i := 64) rfl))) rfl
theorem kw_65 : Cond.fieldLink "BusSleep$Node" 23 "BusSleep$Node" "passive" "Z" ∈ kB_l := kB_of (List.mem_append_right _ (List.mem_append_left _ (List.mem_of_getElem? (i := 65) rfl))) rfl
theorem kw_66 : Cond.fieldLink "BusSleep" 66 "BusSleep$Node" "passive" "Z" ∈ kB_l := kB_of (List.mem_append_right _ (List.mem_append_left _ (List.mem_of_getElem? (i := 66) rfl))) rfl
theorem kw_67 : Cond.fieldLink "BusSleep" 40 "BusSleep$Node" "out" "Z" ∈ kB_l := kB_of (List.mem_append_right _ (List.mem_append_left _ (List.mem_of_getElem? (i := 67) rfl))) rfl
theorem kw_68 : Cond.fieldLink "BusSleep" 83 "BusSleep$Node" "bits" "I" ∈ kB_l := kB_of (List.mem_append_right _ (List.mem_append_left _ (List.mem_of_getElem? (i := 68) rfl))) rfl
theorem kw_69 : Cond.laysFinal "BusSleep$Node" "BusSleep$Node" "number" "I" ∈ kB_l := kB_of (List.mem_append_right _ (List.mem_append_left _ (List.mem_of_getElem? (i := 69) rfl))) rfl
theorem kw_71 : Cond.laysFinal "BusSleep$Node" "BusSleep$Node" "bus" "LBusSleep$Bus;" ∈ kB_l := kB_of (List.mem_append_right _ (List.mem_append_left _ (List.mem_of_getElem? (i := 71) rfl))) rfl
theorem kw_73 : Cond.lays "BusSleep$Node" "BusSleep$Node" "state" "I" ∈ kB_l := kB_of (List.mem_append_right _ (List.mem_append_left _ (List.mem_of_getElem? (i := 73) rfl))) rfl
theorem kw_75 : Cond.lays "BusSleep$Node" "BusSleep$Node" "since" "J" ∈ kB_l := kB_of (List.mem_append_right _ (List.mem_append_left _ (List.mem_of_getElem? (i := 75) rfl))) rfl
theorem kw_77 : Cond.lays "BusSleep$Node" "BusSleep$Node" "heard" "J" ∈ kB_l := kB_of (List.mem_append_right _ (List.mem_append_left _ (List.mem_of_getElem? (i := 77) rfl))) rfl
theorem kw_79 : Cond.lays "BusSleep$Node" "BusSleep$Node" "nextRow" "J" ∈ kB_l := kB_of (List.mem_append_right _ (List.mem_append_left _ (List.mem_of_getElem? (i := 79) rfl))) rfl
theorem kw_81 : Cond.lays "BusSleep$Node" "BusSleep$Node" "asked" "Z" ∈ kB_l := kB_of (List.mem_append_right _ (List.mem_append_left _ (List.mem_of_getElem? (i := 81) rfl))) rfl
theorem kw_83 : Cond.lays "BusSleep$Node" "BusSleep$Node" "passive" "Z" ∈ kB_l := kB_of (List.mem_append_right _ (List.mem_append_left _ (List.mem_of_getElem? (i := 83) rfl))) rfl
theorem kw_85 : Cond.lays "BusSleep$Node" "BusSleep$Node" "out" "Z" ∈ kB_l := kB_of (List.mem_append_right _ (List.mem_append_left _ (List.mem_of_getElem? (i := 85) rfl))) rfl
theorem kw_87 : Cond.lays "BusSleep$Node" "BusSleep$Node" "bits" "I" ∈ kB_l := kB_of (List.mem_append_right _ (List.mem_append_left _ (List.mem_of_getElem? (i := 87) rfl))) rfl
theorem kw_89 : Cond.superclass "BusSleep$Node" "java/lang/Object" ∈ kB_l := kB_of (List.mem_append_right _ (List.mem_append_left _ (List.mem_of_getElem? (i := 89) rfl))) rfl
theorem kw_90 : Cond.fieldLink "BusSleep" 11 "BusSleep" "nodes" "[LBusSleep$Node;" ∈ kB_l := kB_of (List.mem_append_right _ (List.mem_append_left _ (List.mem_of_getElem? (i := 90) rfl))) rfl
theorem kw_91 : Cond.fieldLink "BusSleep" 17 "BusSleep" "buses" "[LBusSleep$Bus;" ∈ kB_l := kB_of (List.mem_append_right _ (List.mem_append_left _ (List.mem_of_getElem? (i := 91) rfl))) rfl
theorem kw_92 : Cond.fieldLink "BusSleep" 106 "BusSleep" "now" "J" ∈ kB_l := kB_of (List.mem_append_right _ (List.mem_append_left _ (List.mem_of_getElem? (i := 92) rfl))) rfl
theorem kw_93 : Cond.fieldLink "BusSleep" 77 "BusSleep" "changes" "I" ∈ kB_l := kB_of (List.mem_append_right _ (List.mem_append_left _ (List.mem_of_getElem? (i := 93) rfl))) rfl
theorem kw_94 : Cond.laysFinal "BusSleep" "BusSleep" "nodes" "[LBusSleep$Node;" ∈ kB_l := kB_of (List.mem_append_right _ (List.mem_append_left _ (List.mem_of_getElem? (i := 94) rfl))) rfl
theorem kw_96 : Cond.laysFinal "BusSleep" "BusSleep" "buses" "[LBusSleep$Bus;" ∈ kB_l := kB_of (List.mem_append_right _ (List.mem_append_left _ (List.mem_of_getElem? (i := 96) rfl))) rfl
theorem kw_98 : Cond.lays "BusSleep" "BusSleep" "now" "J" ∈ kB_l := kB_of (List.mem_append_right _ (List.mem_append_left _ (List.mem_of_getElem? (i := 98) rfl))) rfl
theorem kw_100 : Cond.lays "BusSleep" "BusSleep" "changes" "I" ∈ kB_l := kB_of (List.mem_append_right _ (List.mem_append_left _ (List.mem_of_getElem? (i := 100) rfl))) rfl
theorem kw_102 : Cond.superclass "BusSleep" "java/lang/Object" ∈ kB_l := kB_of (List.mem_append_right _ (List.mem_append_left _ (List.mem_of_getElem? (i := 102) rfl))) rfl
theorem kw_103 : Cond.methodLink "BusSleepLaw" 21 ⟨"BusSleep", "request", "(IZ)I"⟩ ∈ kB_l := kB_of (List.mem_append_right _ (List.mem_append_left _ (List.mem_of_getElem? (i := 103) rfl))) rfl
theorem kw_104 : Cond.instanceMethod ⟨"BusSleep", "request", "(IZ)I"⟩ ∈ kB_l := kB_of (List.mem_append_right _ (List.mem_append_left _ (List.mem_of_getElem? (i := 104) rfl))) rfl
theorem kw_105 : Cond.selects "BusSleep" ⟨"BusSleep", "request", "(IZ)I"⟩ ⟨"BusSleep", "request", "(IZ)I"⟩ ∈ kB_l := kB_of (List.mem_append_right _ (List.mem_append_left _ (List.mem_of_getElem? (i := 105) rfl))) rfl
theorem kw_106 : Cond.code ⟨"BusSleep", "request", "(IZ)I"⟩ prog_1_method_2_code 4 (some .int) ∈ kB_l := kB_of (List.mem_append_right _ (List.mem_append_left _ (List.mem_of_getElem? (i := 106) rfl))) rfl
theorem kw_107 : Cond.methodLink "BusSleep" 36 ⟨"BusSleep", "isNode", "(I)Z"⟩ ∈ kB_l := kB_of (List.mem_append_right _ (List.mem_append_left _ (List.mem_of_getElem? (i := 107) rfl))) rfl
theorem kw_109 : Cond.instanceMethod ⟨"BusSleep", "isNode", "(I)Z"⟩ ∈ kB_l := kB_of (List.mem_append_right _ (List.mem_append_left _ (List.mem_of_getElem? (i := 109) rfl))) rfl
theorem kw_110 : Cond.code ⟨"BusSleep", "isNode", "(I)Z"⟩ prog_1_method_14_code 2 (some .boolean) ∈ kB_l := kB_of (List.mem_append_right _ (List.mem_append_left _ (List.mem_of_getElem? (i := 110) rfl))) rfl
theorem kw_111 : Cond.methodLink "BusSleep" 47 ⟨"BusSleep$Node", "wants", "()Z"⟩ ∈ kB_l := kB_of (List.mem_append_right _ (List.mem_append_left _ (List.mem_of_getElem? (i := 111) rfl))) rfl
theorem kw_112 : Cond.instanceMethod ⟨"BusSleep$Node", "wants", "()Z"⟩ ∈ kB_l := kB_of (List.mem_append_right _ (List.mem_append_left _ (List.mem_of_getElem? (i := 112) rfl))) rfl
theorem kw_113 : Cond.selects "BusSleep$Node" ⟨"BusSleep$Node", "wants", "()Z"⟩ ⟨"BusSleep$Node", "wants", "()Z"⟩ ∈ kB_l := kB_of (List.mem_append_right _ (List.mem_append_left _ (List.mem_of_getElem? (i := 113) rfl))) rfl
theorem kw_114 : Cond.code ⟨"BusSleep$Node", "wants", "()Z"⟩ prog_3_method_2_code 1 (some .boolean) ∈ kB_l := kB_of (List.mem_append_right _ (List.mem_append_left _ (List.mem_of_getElem? (i := 114) rfl))) rfl
theorem kw_115 : Cond.methodLink "BusSleep" 51 ⟨"BusSleep$Node", "canWake", "()Z"⟩ ∈ kB_l := kB_of (List.mem_append_right _ (List.mem_append_left _ (List.mem_of_getElem? (i := 115) rfl))) rfl
theorem kw_116 : Cond.instanceMethod ⟨"BusSleep$Node", "canWake", "()Z"⟩ ∈ kB_l := kB_of (List.mem_append_right _ (List.mem_append_left _ (List.mem_of_getElem? (i := 116) rfl))) rfl
theorem kw_117 : Cond.selects "BusSleep$Node" ⟨"BusSleep$Node", "canWake", "()Z"⟩ ⟨"BusSleep$Node", "canWake", "()Z"⟩ ∈ kB_l := kB_of (List.mem_append_right _ (List.mem_append_left _ (List.mem_of_getElem? (i := 117) rfl))) rfl
theorem kw_118 : Cond.code ⟨"BusSleep$Node", "canWake", "()Z"⟩ prog_3_method_4_code 1 (some .boolean) ∈ kB_l := kB_of (List.mem_append_right _ (List.mem_append_left _ (List.mem_of_getElem? (i := 118) rfl))) rfl
theorem kw_119 : Cond.methodLink "BusSleep" 54 ⟨"BusSleep", "wakeUp", "(LBusSleep$Node;)V"⟩ ∈ kB_l := kB_of (List.mem_append_right _ (List.mem_append_left _ (List.mem_of_getElem? (i := 119) rfl))) rfl
theorem kw_121 : Cond.instanceMethod ⟨"BusSleep", "wakeUp", "(LBusSleep$Node;)V"⟩ ∈ kB_l := kB_of (List.mem_append_right _ (List.mem_append_left _ (List.mem_of_getElem? (i := 121) rfl))) rfl
theorem kw_122 : Cond.code ⟨"BusSleep", "wakeUp", "(LBusSleep$Node;)V"⟩ prog_1_method_23_code 2 none ∈ kB_l := kB_of (List.mem_append_right _ (List.mem_append_left _ (List.mem_of_getElem? (i := 122) rfl))) rfl
theorem kw_123 : Cond.methodLink "BusSleep" 115 ⟨"BusSleep", "comeTo", "(LBusSleep$Node;I)V"⟩ ∈ kB_l := kB_of (List.mem_append_right _ (List.mem_append_left _ (List.mem_of_getElem? (i := 123) rfl))) rfl
theorem kw_125 : Cond.instanceMethod ⟨"BusSleep", "comeTo", "(LBusSleep$Node;I)V"⟩ ∈ kB_l := kB_of (List.mem_append_right _ (List.mem_append_left _ (List.mem_of_getElem? (i := 125) rfl))) rfl
theorem kw_126 : Cond.code ⟨"BusSleep", "comeTo", "(LBusSleep$Node;I)V"⟩ prog_1_method_24_code 3 none ∈ kB_l := kB_of (List.mem_append_right _ (List.mem_append_left _ (List.mem_of_getElem? (i := 126) rfl))) rfl
theorem kw_127 : Cond.methodLink "BusSleep" 140 ⟨"BusSleep$Node", "keepsAwake", "()Z"⟩ ∈ kB_l := kB_of (List.mem_append_right _ (List.mem_append_left _ (List.mem_of_getElem? (i := 127) rfl))) rfl
theorem kw_128 : Cond.instanceMethod ⟨"BusSleep$Node", "keepsAwake", "()Z"⟩ ∈ kB_l := kB_of (List.mem_append_right _ (List.mem_append_left _ (List.mem_of_getElem? (i := 128) rfl))) rfl
theorem kw_129 : Cond.selects "BusSleep$Node" ⟨"BusSleep$Node", "keepsAwake", "()Z"⟩ ⟨"BusSleep$Node", "keepsAwake", "()Z"⟩ ∈ kB_l := kB_of (List.mem_append_right _ (List.mem_append_left _ (List.mem_of_getElem? (i := 129) rfl))) rfl
theorem kw_130 : Cond.code ⟨"BusSleep$Node", "keepsAwake", "()Z"⟩ prog_3_method_3_code 1 (some .boolean) ∈ kB_l := kB_of (List.mem_append_right _ (List.mem_append_left _ (List.mem_of_getElem? (i := 130) rfl))) rfl
theorem kw_131 : Cond.methodLink "BusSleepLaw" 28 ⟨"BusSleep", "alive", "(IJ)I"⟩ ∈ kB_l := kB_of (List.mem_append_right _ (List.mem_append_left _ (List.mem_of_getElem? (i := 131) rfl))) rfl
theorem kw_132 : Cond.instanceMethod ⟨"BusSleep", "alive", "(IJ)I"⟩ ∈ kB_l := kB_of (List.mem_append_right _ (List.mem_append_left _ (List.mem_of_getElem? (i := 132) rfl))) rfl
theorem kw_133 : Cond.selects "BusSleep" ⟨"BusSleep", "alive", "(IJ)I"⟩ ⟨"BusSleep", "alive", "(IJ)I"⟩ ∈ kB_l := kB_of (List.mem_append_right _ (List.mem_append_left _ (List.mem_of_getElem? (i := 133) rfl))) rfl
theorem kw_134 : Cond.code ⟨"BusSleep", "alive", "(IJ)I"⟩ prog_1_method_3_code 5 (some .int) ∈ kB_l := kB_of (List.mem_append_right _ (List.mem_append_left _ (List.mem_of_getElem? (i := 134) rfl))) rfl
theorem kw_135 : Cond.methodLink "BusSleep" 62 ⟨"BusSleep", "isTime", "(J)Z"⟩ ∈ kB_l := kB_of (List.mem_append_right _ (List.mem_append_left _ (List.mem_of_getElem? (i := 135) rfl))) rfl
theorem kw_137 : Cond.instanceMethod ⟨"BusSleep", "isTime", "(J)Z"⟩ ∈ kB_l := kB_of (List.mem_append_right _ (List.mem_append_left _ (List.mem_of_getElem? (i := 137) rfl))) rfl
theorem kw_138 : Cond.code ⟨"BusSleep", "isTime", "(J)Z"⟩ prog_1_method_16_code 3 (some .boolean) ∈ kB_l := kB_of (List.mem_append_right _ (List.mem_append_left _ (List.mem_of_getElem? (i := 138) rfl))) rfl
theorem kw_139 : Cond.constantLong "BusSleep" 119 (1000 : Int64) ∈ kB_l := kB_of (List.mem_append_right _ (List.mem_append_left _ (List.mem_of_getElem? (i := 139) rfl))) rfl
theorem kw_140 : Cond.methodLink "BusSleep" 69 ⟨"BusSleep", "goOn", "(J)V"⟩ ∈ kB_l := kB_of (List.mem_append_right _ (List.mem_append_left _ (List.mem_of_getElem? (i := 140) rfl))) rfl
theorem kw_142 : Cond.instanceMethod ⟨"BusSleep", "goOn", "(J)V"⟩ ∈ kB_l := kB_of (List.mem_append_right _ (List.mem_append_left _ (List.mem_of_getElem? (i := 142) rfl))) rfl
theorem kw_143 : Cond.code ⟨"BusSleep", "goOn", "(J)V"⟩ prog_1_method_17_code 5 none ∈ kB_l := kB_of (List.mem_append_right _ (List.mem_append_left _ (List.mem_of_getElem? (i := 143) rfl))) rfl
theorem kw_144 : Cond.methodLink "BusSleep" 121 ⟨"BusSleep", "sleeps", "()Z"⟩ ∈ kB_l := kB_of (List.mem_append_right _ (List.mem_append_left _ (List.mem_of_getElem? (i := 144) rfl))) rfl
theorem kw_145 : Cond.instanceMethod ⟨"BusSleep", "sleeps", "()Z"⟩ ∈ kB_l := kB_of (List.mem_append_right _ (List.mem_append_left _ (List.mem_of_getElem? (i := 145) rfl))) rfl
theorem kw_146 : Cond.selects "BusSleep" ⟨"BusSleep", "sleeps", "()Z"⟩ ⟨"BusSleep", "sleeps", "()Z"⟩ ∈ kB_l := kB_of (List.mem_append_right _ (List.mem_append_left _ (List.mem_of_getElem? (i := 146) rfl))) rfl
theorem kw_147 : Cond.code ⟨"BusSleep", "sleeps", "()Z"⟩ prog_1_method_13_code 5 (some .boolean) ∈ kB_l := kB_of (List.mem_append_right _ (List.mem_append_left _ (List.mem_of_getElem? (i := 147) rfl))) rfl
theorem kw_148 : Cond.methodLink "BusSleep" 124 ⟨"BusSleep", "changeStates", "()V"⟩ ∈ kB_l := kB_of (List.mem_append_right _ (List.mem_append_left _ (List.mem_of_getElem? (i := 148) rfl))) rfl
theorem kw_150 : Cond.instanceMethod ⟨"BusSleep", "changeStates", "()V"⟩ ∈ kB_l := kB_of (List.mem_append_right _ (List.mem_append_left _ (List.mem_of_getElem? (i := 150) rfl))) rfl
theorem kw_151 : Cond.code ⟨"BusSleep", "changeStates", "()V"⟩ prog_1_method_18_code 5 none ∈ kB_l := kB_of (List.mem_append_right _ (List.mem_append_left _ (List.mem_of_getElem? (i := 151) rfl))) rfl
theorem kw_152 : Cond.methodLink "BusSleep" 130 ⟨"BusSleep", "changeState", "(LBusSleep$Node;)V"⟩ ∈ kB_l := kB_of (List.mem_append_right _ (List.mem_append_left _ (List.mem_of_getElem? (i := 152) rfl))) rfl
theorem kw_154 : Cond.instanceMethod ⟨"BusSleep", "changeState", "(LBusSleep$Node;)V"⟩ ∈ kB_l := kB_of (List.mem_append_right _ (List.mem_append_left _ (List.mem_of_getElem? (i := 154) rfl))) rfl
theorem kw_155 : Cond.code ⟨"BusSleep", "changeState", "(LBusSleep$Node;)V"⟩ prog_1_method_19_code 4 none ∈ kB_l := kB_of (List.mem_append_right _ (List.mem_append_left _ (List.mem_of_getElem? (i := 155) rfl))) rfl
theorem kw_156 : Cond.constantLong "BusSleep" 133 (20 : Int64) ∈ kB_l := kB_of (List.mem_append_right _ (List.mem_append_left _ (List.mem_of_getElem? (i := 156) rfl))) rfl
theorem kw_157 : Cond.methodLink "BusSleep" 135 ⟨"BusSleep", "isStill", "(I)Z"⟩ ∈ kB_l := kB_of (List.mem_append_right _ (List.mem_append_left _ (List.mem_of_getElem? (i := 157) rfl))) rfl
theorem kw_159 : Cond.instanceMethod ⟨"BusSleep", "isStill", "(I)Z"⟩ ∈ kB_l := kB_of (List.mem_append_right _ (List.mem_append_left _ (List.mem_of_getElem? (i := 159) rfl))) rfl
theorem kw_160 : Cond.code ⟨"BusSleep", "isStill", "(I)Z"⟩ prog_1_method_25_code 6 (some .boolean) ∈ kB_l := kB_of (List.mem_append_right _ (List.mem_append_left _ (List.mem_of_getElem? (i := 160) rfl))) rfl
theorem kw_161 : Cond.constantLong "BusSleep" 161 (10 : Int64) ∈ kB_l := kB_of (List.mem_append_right _ (List.mem_append_left _ (List.mem_of_getElem? (i := 161) rfl))) rfl
theorem kw_162 : Cond.constantLong "BusSleep" 138 (5 : Int64) ∈ kB_l := kB_of (List.mem_append_right _ (List.mem_append_left _ (List.mem_of_getElem? (i := 162) rfl))) rfl
theorem kw_163 : Cond.methodLink "BusSleep" 127 ⟨"BusSleep", "sendRows", "()V"⟩ ∈ kB_l := kB_of (List.mem_append_right _ (List.mem_append_left _ (List.mem_of_getElem? (i := 163) rfl))) rfl
theorem kw_165 : Cond.instanceMethod ⟨"BusSleep", "sendRows", "()V"⟩ ∈ kB_l := kB_of (List.mem_append_right _ (List.mem_append_left _ (List.mem_of_getElem? (i := 165) rfl))) rfl
theorem kw_166 : Cond.code ⟨"BusSleep", "sendRows", "()V"⟩ prog_1_method_20_code 5 none ∈ kB_l := kB_of (List.mem_append_right _ (List.mem_append_left _ (List.mem_of_getElem? (i := 166) rfl))) rfl
theorem kw_167 : Cond.methodLink "BusSleep" 73 ⟨"BusSleep", "sendRow", "(LBusSleep$Node;)I"⟩ ∈ kB_l := kB_of (List.mem_append_right _ (List.mem_append_left _ (List.mem_of_getElem? (i := 167) rfl))) rfl
theorem kw_169 : Cond.instanceMethod ⟨"BusSleep", "sendRow", "(LBusSleep$Node;)I"⟩ ∈ kB_l := kB_of (List.mem_append_right _ (List.mem_append_left _ (List.mem_of_getElem? (i := 169) rfl))) rfl
theorem kw_170 : Cond.code ⟨"BusSleep", "sendRow", "(LBusSleep$Node;)I"⟩ prog_1_method_21_code 7 (some .int) ∈ kB_l := kB_of (List.mem_append_right _ (List.mem_append_left _ (List.mem_of_getElem? (i := 170) rfl))) rfl
theorem kw_171 : Cond.methodLink "BusSleep" 151 ⟨"BusSleep", "hear", "(LBusSleep$Node;)V"⟩ ∈ kB_l := kB_of (List.mem_append_right _ (List.mem_append_left _ (List.mem_of_getElem? (i := 171) rfl))) rfl
theorem kw_173 : Cond.instanceMethod ⟨"BusSleep", "hear", "(LBusSleep$Node;)V"⟩ ∈ kB_l := kB_of (List.mem_append_right _ (List.mem_append_left _ (List.mem_of_getElem? (i := 173) rfl))) rfl
theorem kw_174 : Cond.code ⟨"BusSleep", "hear", "(LBusSleep$Node;)V"⟩ prog_1_method_22_code 2 none ∈ kB_l := kB_of (List.mem_append_right _ (List.mem_append_left _ (List.mem_of_getElem? (i := 174) rfl))) rfl
theorem kw_175 : Cond.methodLink "BusSleep" 154 ⟨"BusSleep", "callBits", "(LBusSleep$Bus;I)V"⟩ ∈ kB_l := kB_of (List.mem_append_right _ (List.mem_append_left _ (List.mem_of_getElem? (i := 175) rfl))) rfl
theorem kw_177 : Cond.instanceMethod ⟨"BusSleep", "callBits", "(LBusSleep$Bus;I)V"⟩ ∈ kB_l := kB_of (List.mem_append_right _ (List.mem_append_left _ (List.mem_of_getElem? (i := 177) rfl))) rfl
theorem kw_178 : Cond.code ⟨"BusSleep", "callBits", "(LBusSleep$Bus;I)V"⟩ prog_1_method_26_code 4 none ∈ kB_l := kB_of (List.mem_append_right _ (List.mem_append_left _ (List.mem_of_getElem? (i := 178) rfl))) rfl
theorem kw_179 : Cond.constantLong "BusSleep" 146 (3 : Int64) ∈ kB_l := kB_of (List.mem_append_right _ (List.mem_append_left _ (List.mem_of_getElem? (i := 179) rfl))) rfl
theorem kw_180 : Cond.methodLink "BusSleepLaw" 33 ⟨"BusSleep", "tick", "(J)I"⟩ ∈ kB_l := kB_of (List.mem_append_right _ (List.mem_append_left _ (List.mem_of_getElem? (i := 180) rfl))) rfl
theorem kw_181 : Cond.instanceMethod ⟨"BusSleep", "tick", "(J)I"⟩ ∈ kB_l := kB_of (List.mem_append_right _ (List.mem_append_left _ (List.mem_of_getElem? (i := 181) rfl))) rfl
theorem kw_182 : Cond.selects "BusSleep" ⟨"BusSleep", "tick", "(J)I"⟩ ⟨"BusSleep", "tick", "(J)I"⟩ ∈ kB_l := kB_of (List.mem_append_right _ (List.mem_append_left _ (List.mem_of_getElem? (i := 182) rfl))) rfl
theorem kw_183 : Cond.code ⟨"BusSleep", "tick", "(J)I"⟩ prog_1_method_4_code 4 (some .int) ∈ kB_l := kB_of (List.mem_append_right _ (List.mem_append_left _ (List.mem_of_getElem? (i := 183) rfl))) rfl
theorem kw_184 : Cond.methodLink "BusSleepLaw" 38 ⟨"BusSleep", "state", "(I)I"⟩ ∈ kB_l := kB_of (List.mem_append_right _ (List.mem_append_left _ (List.mem_of_getElem? (i := 184) rfl))) rfl
theorem kw_185 : Cond.instanceMethod ⟨"BusSleep", "state", "(I)I"⟩ ∈ kB_l := kB_of (List.mem_append_right _ (List.mem_append_left _ (List.mem_of_getElem? (i := 185) rfl))) rfl
theorem kw_186 : Cond.selects "BusSleep" ⟨"BusSleep", "state", "(I)I"⟩ ⟨"BusSleep", "state", "(I)I"⟩ ∈ kB_l := kB_of (List.mem_append_right _ (List.mem_append_left _ (List.mem_of_getElem? (i := 186) rfl))) rfl
theorem kw_187 : Cond.code ⟨"BusSleep", "state", "(I)I"⟩ prog_1_method_5_code 2 (some .int) ∈ kB_l := kB_of (List.mem_append_right _ (List.mem_append_left _ (List.mem_of_getElem? (i := 187) rfl))) rfl
theorem kw_188 : Cond.methodLink "BusSleepLaw" 43 ⟨"BusSleep", "wake", "(IJ)I"⟩ ∈ kB_l := kB_of (List.mem_append_right _ (List.mem_append_left _ (List.mem_of_getElem? (i := 188) rfl))) rfl
theorem kw_189 : Cond.instanceMethod ⟨"BusSleep", "wake", "(IJ)I"⟩ ∈ kB_l := kB_of (List.mem_append_right _ (List.mem_append_left _ (List.mem_of_getElem? (i := 189) rfl))) rfl
theorem kw_190 : Cond.selects "BusSleep" ⟨"BusSleep", "wake", "(IJ)I"⟩ ⟨"BusSleep", "wake", "(IJ)I"⟩ ∈ kB_l := kB_of (List.mem_append_right _ (List.mem_append_left _ (List.mem_of_getElem? (i := 190) rfl))) rfl
theorem kw_191 : Cond.code ⟨"BusSleep", "wake", "(IJ)I"⟩ prog_1_method_6_code 10 (some .int) ∈ kB_l := kB_of (List.mem_append_right _ (List.mem_append_left _ (List.mem_of_getElem? (i := 191) rfl))) rfl
theorem kw_192 : Cond.methodLink "BusSleepLaw" 47 ⟨"BusSleep", "bit", "(IIZ)I"⟩ ∈ kB_l := kB_of (List.mem_append_right _ (List.mem_append_left _ (List.mem_of_getElem? (i := 192) rfl))) rfl
theorem kw_193 : Cond.instanceMethod ⟨"BusSleep", "bit", "(IIZ)I"⟩ ∈ kB_l := kB_of (List.mem_append_right _ (List.mem_append_left _ (List.mem_of_getElem? (i := 193) rfl))) rfl
theorem kw_194 : Cond.selects "BusSleep" ⟨"BusSleep", "bit", "(IIZ)I"⟩ ⟨"BusSleep", "bit", "(IIZ)I"⟩ ∈ kB_l := kB_of (List.mem_append_right _ (List.mem_append_left _ (List.mem_of_getElem? (i := 194) rfl))) rfl
theorem kw_195 : Cond.code ⟨"BusSleep", "bit", "(IIZ)I"⟩ prog_1_method_7_code 6 (some .int) ∈ kB_l := kB_of (List.mem_append_right _ (List.mem_append_left _ (List.mem_of_getElem? (i := 195) rfl))) rfl
theorem kw_196 : Cond.methodLink "BusSleep" 86 ⟨"java/lang/Integer", "bitCount", "(I)I"⟩ ∈ kB_l := kB_of (List.mem_append_right _ (List.mem_append_left _ (List.mem_of_getElem? (i := 196) rfl))) rfl
theorem kw_197 : Cond.static ⟨"java/lang/Integer", "bitCount", "(I)I"⟩ ∈ kB_l := kB_of (List.mem_append_right _ (List.mem_append_left _ (List.mem_of_getElem? (i := 197) rfl))) rfl
theorem kw_198 : Cond.code ⟨"java/lang/Integer", "bitCount", "(I)I"⟩ prog_6_method_49_code 1 (some .int) ∈ kB_l := kB_of (List.mem_append_right _ (List.mem_append_left _ (List.mem_of_getElem? (i := 198) rfl))) rfl
theorem kw_199 : Cond.constant "java/lang/Integer" 265 (1431655765 : Int32) ∈ kB_l := kB_of (List.mem_append_right _ (List.mem_append_left _ (List.mem_of_getElem? (i := 199) rfl))) rfl
theorem kw_200 : Cond.constant "java/lang/Integer" 266 (858993459 : Int32) ∈ kB_l := kB_of (List.mem_append_right _ (List.mem_append_left _ (List.mem_of_getElem? (i := 200) rfl))) rfl
theorem kw_201 : Cond.constant "java/lang/Integer" 267 (252645135 : Int32) ∈ kB_l := kB_of (List.mem_append_right _ (List.mem_append_left _ (List.mem_of_getElem? (i := 201) rfl))) rfl
theorem kw_202 : Cond.methodLink "BusSleepLaw" 52 ⟨"BusSleep", "needs", "(IJ)I"⟩ ∈ kB_l := kB_of (List.mem_append_right _ (List.mem_append_left _ (List.mem_of_getElem? (i := 202) rfl))) rfl
theorem kw_203 : Cond.instanceMethod ⟨"BusSleep", "needs", "(IJ)I"⟩ ∈ kB_l := kB_of (List.mem_append_right _ (List.mem_append_left _ (List.mem_of_getElem? (i := 203) rfl))) rfl
theorem kw_204 : Cond.selects "BusSleep" ⟨"BusSleep", "needs", "(IJ)I"⟩ ⟨"BusSleep", "needs", "(IJ)I"⟩ ∈ kB_l := kB_of (List.mem_append_right _ (List.mem_append_left _ (List.mem_of_getElem? (i := 204) rfl))) rfl
theorem kw_205 : Cond.code ⟨"BusSleep", "needs", "(IJ)I"⟩ prog_1_method_8_code 9 (some .int) ∈ kB_l := kB_of (List.mem_append_right _ (List.mem_append_left _ (List.mem_of_getElem? (i := 205) rfl))) rfl
theorem kw_206 : Cond.methodLink "BusSleep" 99 ⟨"BusSleep", "wasCalled", "(LBusSleep$Bus;I)Z"⟩ ∈ kB_l := kB_of (List.mem_append_right _ (List.mem_append_left _ (List.mem_of_getElem? (i := 206) rfl))) rfl
theorem kw_208 : Cond.instanceMethod ⟨"BusSleep", "wasCalled", "(LBusSleep$Bus;I)Z"⟩ ∈ kB_l := kB_of (List.mem_append_right _ (List.mem_append_left _ (List.mem_of_getElem? (i := 208) rfl))) rfl
theorem kw_209 : Cond.code ⟨"BusSleep", "wasCalled", "(LBusSleep$Bus;I)Z"⟩ prog_1_method_27_code 4 (some .boolean) ∈ kB_l := kB_of (List.mem_append_right _ (List.mem_append_left _ (List.mem_of_getElem? (i := 209) rfl))) rfl
theorem kw_210 : Cond.methodLink "BusSleepLaw" 56 ⟨"BusSleep", "coordinate", "(II)I"⟩ ∈ kB_l := kB_of (List.mem_append_right _ (List.mem_append_left _ (List.mem_of_getElem? (i := 210) rfl))) rfl
theorem kw_211 : Cond.instanceMethod ⟨"BusSleep", "coordinate", "(II)I"⟩ ∈ kB_l := kB_of (List.mem_append_right _ (List.mem_append_left _ (List.mem_of_getElem? (i := 211) rfl))) rfl
theorem kw_212 : Cond.selects "BusSleep" ⟨"BusSleep", "coordinate", "(II)I"⟩ ⟨"BusSleep", "coordinate", "(II)I"⟩ ∈ kB_l := kB_of (List.mem_append_right _ (List.mem_append_left _ (List.mem_of_getElem? (i := 212) rfl))) rfl
theorem kw_213 : Cond.code ⟨"BusSleep", "coordinate", "(II)I"⟩ prog_1_method_9_code 10 (some .int) ∈ kB_l := kB_of (List.mem_append_right _ (List.mem_append_left _ (List.mem_of_getElem? (i := 213) rfl))) rfl
theorem kw_214 : Cond.methodLink "BusSleep" 103 ⟨"BusSleep", "isBus", "(I)Z"⟩ ∈ kB_l := kB_of (List.mem_append_right _ (List.mem_append_left _ (List.mem_of_getElem? (i := 214) rfl))) rfl
theorem kw_216 : Cond.instanceMethod ⟨"BusSleep", "isBus", "(I)Z"⟩ ∈ kB_l := kB_of (List.mem_append_right _ (List.mem_append_left _ (List.mem_of_getElem? (i := 216) rfl))) rfl
theorem kw_217 : Cond.code ⟨"BusSleep", "isBus", "(I)Z"⟩ prog_1_method_15_code 2 (some .boolean) ∈ kB_l := kB_of (List.mem_append_right _ (List.mem_append_left _ (List.mem_of_getElem? (i := 217) rfl))) rfl
theorem kw_218 : Cond.methodLink "BusSleepLaw" 61 ⟨"BusSleep", "passive", "(IZ)I"⟩ ∈ kB_l := kB_of (List.mem_append_right _ (List.mem_append_left _ (List.mem_of_getElem? (i := 218) rfl))) rfl
theorem kw_219 : Cond.instanceMethod ⟨"BusSleep", "passive", "(IZ)I"⟩ ∈ kB_l := kB_of (List.mem_append_right _ (List.mem_append_left _ (List.mem_of_getElem? (i := 219) rfl))) rfl
theorem kw_220 : Cond.selects "BusSleep" ⟨"BusSleep", "passive", "(IZ)I"⟩ ⟨"BusSleep", "passive", "(IZ)I"⟩ ∈ kB_l := kB_of (List.mem_append_right _ (List.mem_append_left _ (List.mem_of_getElem? (i := 220) rfl))) rfl
theorem kw_221 : Cond.code ⟨"BusSleep", "passive", "(IZ)I"⟩ prog_1_method_10_code 4 (some .int) ∈ kB_l := kB_of (List.mem_append_right _ (List.mem_append_left _ (List.mem_of_getElem? (i := 221) rfl))) rfl
theorem kw_222 : Cond.methodLink "BusSleepLaw" 65 ⟨"BusSleep", "never", "(I)I"⟩ ∈ kB_l := kB_of (List.mem_append_right _ (List.mem_append_left _ (List.mem_of_getElem? (i := 222) rfl))) rfl
theorem kw_223 : Cond.instanceMethod ⟨"BusSleep", "never", "(I)I"⟩ ∈ kB_l := kB_of (List.mem_append_right _ (List.mem_append_left _ (List.mem_of_getElem? (i := 223) rfl))) rfl
theorem kw_224 : Cond.selects "BusSleep" ⟨"BusSleep", "never", "(I)I"⟩ ⟨"BusSleep", "never", "(I)I"⟩ ∈ kB_l := kB_of (List.mem_append_right _ (List.mem_append_left _ (List.mem_of_getElem? (i := 224) rfl))) rfl
theorem kw_225 : Cond.code ⟨"BusSleep", "never", "(I)I"⟩ prog_1_method_11_code 7 (some .int) ∈ kB_l := kB_of (List.mem_append_right _ (List.mem_append_left _ (List.mem_of_getElem? (i := 225) rfl))) rfl
theorem kw_226 : Cond.constantLong "BusSleep" 113 (200 : Int64) ∈ kB_l := kB_of (List.mem_append_right _ (List.mem_append_left _ (List.mem_of_getElem? (i := 226) rfl))) rfl
theorem kw_227 : Cond.methodLink "BusSleepLaw" 69 ⟨"BusSleep", "limp", "(IJ)I"⟩ ∈ kB_l := kB_of (List.mem_append_right _ (List.mem_append_left _ (List.mem_of_getElem? (i := 227) rfl))) rfl
theorem kw_228 : Cond.instanceMethod ⟨"BusSleep", "limp", "(IJ)I"⟩ ∈ kB_l := kB_of (List.mem_append_right _ (List.mem_append_left _ (List.mem_of_getElem? (i := 228) rfl))) rfl
theorem kw_229 : Cond.selects "BusSleep" ⟨"BusSleep", "limp", "(IJ)I"⟩ ⟨"BusSleep", "limp", "(IJ)I"⟩ ∈ kB_l := kB_of (List.mem_append_right _ (List.mem_append_left _ (List.mem_of_getElem? (i := 229) rfl))) rfl
theorem kw_230 : Cond.code ⟨"BusSleep", "limp", "(IJ)I"⟩ prog_1_method_12_code 5 (some .int) ∈ kB_l := kB_of (List.mem_append_right _ (List.mem_append_left _ (List.mem_of_getElem? (i := 230) rfl))) rfl
theorem kw_231 : Cond.methodLink "BusSleepLaw" 73 ⟨"BusSleep", "sleeps", "()Z"⟩ ∈ kB_l := kB_of (List.mem_append_right _ (List.mem_append_left _ (List.mem_of_getElem? (i := 231) rfl))) rfl
theorem kw_232 : Cond.methodLink "BusSleepLaw" 9 ⟨"BusSleepLaw", "cell", "([II)I"⟩ ∈ kB_l := kB_of (List.mem_append_right _ (List.mem_append_left _ (List.mem_of_getElem? (i := 232) rfl))) rfl
theorem kw_233 : Cond.static ⟨"BusSleepLaw", "cell", "([II)I"⟩ ∈ kB_l := kB_of (List.mem_append_right _ (List.mem_append_left _ (List.mem_of_getElem? (i := 233) rfl))) rfl
theorem kw_234 : Cond.code ⟨"BusSleepLaw", "cell", "([II)I"⟩ method_2_code 2 (some .int) ∈ kB_l := kB_of (List.mem_append_right _ (List.mem_append_left _ (List.mem_of_getElem? (i := 234) rfl))) rfl
theorem kw_235 : Cond.classLink "BusSleepLaw" 18 "BusSleepModel" ∈ kB_l := kB_of (List.mem_append_right _ (List.mem_append_left _ (List.mem_of_getElem? (i := 235) rfl))) rfl
theorem kw_236 : Cond.instantiable "BusSleepModel" 17 ∈ kB_l := kB_of (List.mem_append_right _ (List.mem_append_left _ (List.mem_of_getElem? (i := 236) rfl))) rfl
theorem kw_237 : Cond.methodLink "BusSleepLaw" 20 ⟨"BusSleepModel", "<init>", "(I)V"⟩ ∈ kB_l := kB_of (List.mem_append_right _ (List.mem_append_left _ (List.mem_of_getElem? (i := 237) rfl))) rfl
theorem kw_238 : Cond.instanceMethod ⟨"BusSleepModel", "<init>", "(I)V"⟩ ∈ kB_l := kB_of (List.mem_append_right _ (List.mem_append_left _ (List.mem_of_getElem? (i := 238) rfl))) rfl
theorem kw_239 : Cond.code ⟨"BusSleepModel", "<init>", "(I)V"⟩ prog_5_method_1_code 3 none ∈ kB_l := kB_of (List.mem_append_right _ (List.mem_append_left _ (List.mem_of_getElem? (i := 239) rfl))) rfl
theorem kw_240 : Cond.methodLink "BusSleepModel" 1 ⟨"java/lang/Object", "<init>", "()V"⟩ ∈ kB_l := kB_of (List.mem_append_right _ (List.mem_append_right _ (List.mem_of_getElem? (i := 0) rfl))) rfl
theorem kw_241 : Cond.fieldLink "BusSleepModel" 55 "BusSleepModel" "code" "I" ∈ kB_l := kB_of (List.mem_append_right _ (List.mem_append_right _ (List.mem_of_getElem? (i := 1) rfl))) rfl
theorem kw_242 : Cond.fieldLink "BusSleepModel" 51 "BusSleepModel" "nodes" "I" ∈ kB_l := kB_of (List.mem_append_right _ (List.mem_append_right _ (List.mem_of_getElem? (i := 2) rfl))) rfl
theorem kw_243 : Cond.fieldLink "BusSleepModel" 7 "BusSleepModel" "state" "[I" ∈ kB_l := kB_of (List.mem_append_right _ (List.mem_append_right _ (List.mem_of_getElem? (i := 3) rfl))) rfl
theorem kw_244 : Cond.fieldLink "BusSleepModel" 13 "BusSleepModel" "asked" "[Z" ∈ kB_l := kB_of (List.mem_append_right _ (List.mem_append_right _ (List.mem_of_getElem? (i := 4) rfl))) rfl
theorem kw_245 : Cond.fieldLink "BusSleepModel" 17 "BusSleepModel" "passive" "[Z" ∈ kB_l := kB_of (List.mem_append_right _ (List.mem_append_right _ (List.mem_of_getElem? (i := 5) rfl))) rfl
theorem kw_246 : Cond.fieldLink "BusSleepModel" 20 "BusSleepModel" "out" "[Z" ∈ kB_l := kB_of (List.mem_append_right _ (List.mem_append_right _ (List.mem_of_getElem? (i := 6) rfl))) rfl
theorem kw_247 : Cond.fieldLink "BusSleepModel" 23 "BusSleepModel" "bits" "[I" ∈ kB_l := kB_of (List.mem_append_right _ (List.mem_append_right _ (List.mem_of_getElem? (i := 7) rfl))) rfl
theorem kw_248 : Cond.fieldLink "BusSleepModel" 26 "BusSleepModel" "since" "[J" ∈ kB_l := kB_of (List.mem_append_right _ (List.mem_append_right _ (List.mem_of_getElem? (i := 8) rfl))) rfl
theorem kw_249 : Cond.fieldLink "BusSleepModel" 30 "BusSleepModel" "heard" "[J" ∈ kB_l := kB_of (List.mem_append_right _ (List.mem_append_right _ (List.mem_of_getElem? (i := 9) rfl))) rfl
theorem kw_250 : Cond.fieldLink "BusSleepModel" 33 "BusSleepModel" "sent" "[J" ∈ kB_l := kB_of (List.mem_append_right _ (List.mem_append_right _ (List.mem_of_getElem? (i := 10) rfl))) rfl
theorem kw_251 : Cond.fieldLink "BusSleepModel" 36 "BusSleepModel" "first" "[Z" ∈ kB_l := kB_of (List.mem_append_right _ (List.mem_append_right _ (List.mem_of_getElem? (i := 11) rfl))) rfl
theorem kw_252 : Cond.fieldLink "BusSleepModel" 39 "BusSleepModel" "woke" "[J" ∈ kB_l := kB_of (List.mem_append_right _ (List.mem_append_right _ (List.mem_of_getElem? (i := 12) rfl))) rfl
theorem kw_253 : Cond.fieldLink "BusSleepModel" 42 "BusSleepModel" "name" "[I" ∈ kB_l := kB_of (List.mem_append_right _ (List.mem_append_right _ (List.mem_of_getElem? (i := 13) rfl))) rfl
theorem kw_254 : Cond.fieldLink "BusSleepModel" 45 "BusSleepModel" "called" "[J" ∈ kB_l := kB_of (List.mem_append_right _ (List.mem_append_right _ (List.mem_of_getElem? (i := 14) rfl))) rfl
theorem kw_255 : Cond.fieldLink "BusSleepModel" 48 "BusSleepModel" "ever" "[Z" ∈ kB_l := kB_of (List.mem_append_right _ (List.mem_append_right _ (List.mem_of_getElem? (i := 15) rfl))) rfl
theorem kw_256 : Cond.fieldLink "BusSleepModel" 58 "BusSleepModel" "now" "J" ∈ kB_l := kB_of (List.mem_append_right _ (List.mem_append_right _ (List.mem_of_getElem? (i := 16) rfl))) rfl
theorem kw_257 : Cond.fieldLink "BusSleepModel" 62 "BusSleepModel" "changes" "I" ∈ kB_l := kB_of (List.mem_append_right _ (List.mem_append_right _ (List.mem_of_getElem? (i := 17) rfl))) rfl
theorem kw_258 : Cond.lays "BusSleepModel" "BusSleepModel" "code" "I" ∈ kB_l := kB_of (List.mem_append_right _ (List.mem_append_right _ (List.mem_of_getElem? (i := 18) rfl))) rfl
theorem kw_260 : Cond.laysFinal "BusSleepModel" "BusSleepModel" "nodes" "I" ∈ kB_l := kB_of (List.mem_append_right _ (List.mem_append_right _ (List.mem_of_getElem? (i := 20) rfl))) rfl
theorem kw_262 : Cond.laysFinal "BusSleepModel" "BusSleepModel" "state" "[I" ∈ kB_l := kB_of (List.mem_append_right _ (List.mem_append_right _ (List.mem_of_getElem? (i := 22) rfl))) rfl
theorem kw_264 : Cond.laysFinal "BusSleepModel" "BusSleepModel" "asked" "[Z" ∈ kB_l := kB_of (List.mem_append_right _ (List.mem_append_right _ (List.mem_of_getElem? (i := 24) rfl))) rfl
theorem kw_266 : Cond.laysFinal "BusSleepModel" "BusSleepModel" "passive" "[Z" ∈ kB_l := kB_of (List.mem_append_right _ (List.mem_append_right _ (List.mem_of_getElem? (i := 26) rfl))) rfl
theorem kw_268 : Cond.laysFinal "BusSleepModel" "BusSleepModel" "out" "[Z" ∈ kB_l := kB_of (List.mem_append_right _ (List.mem_append_right _ (List.mem_of_getElem? (i := 28) rfl))) rfl
theorem kw_270 : Cond.laysFinal "BusSleepModel" "BusSleepModel" "bits" "[I" ∈ kB_l := kB_of (List.mem_append_right _ (List.mem_append_right _ (List.mem_of_getElem? (i := 30) rfl))) rfl
theorem kw_272 : Cond.laysFinal "BusSleepModel" "BusSleepModel" "since" "[J" ∈ kB_l := kB_of (List.mem_append_right _ (List.mem_append_right _ (List.mem_of_getElem? (i := 32) rfl))) rfl
theorem kw_274 : Cond.laysFinal "BusSleepModel" "BusSleepModel" "heard" "[J" ∈ kB_l := kB_of (List.mem_append_right _ (List.mem_append_right _ (List.mem_of_getElem? (i := 34) rfl))) rfl
theorem kw_276 : Cond.laysFinal "BusSleepModel" "BusSleepModel" "sent" "[J" ∈ kB_l := kB_of (List.mem_append_right _ (List.mem_append_right _ (List.mem_of_getElem? (i := 36) rfl))) rfl
theorem kw_278 : Cond.laysFinal "BusSleepModel" "BusSleepModel" "first" "[Z" ∈ kB_l := kB_of (List.mem_append_right _ (List.mem_append_right _ (List.mem_of_getElem? (i := 38) rfl))) rfl
theorem kw_280 : Cond.laysFinal "BusSleepModel" "BusSleepModel" "woke" "[J" ∈ kB_l := kB_of (List.mem_append_right _ (List.mem_append_right _ (List.mem_of_getElem? (i := 40) rfl))) rfl
theorem kw_282 : Cond.laysFinal "BusSleepModel" "BusSleepModel" "name" "[I" ∈ kB_l := kB_of (List.mem_append_right _ (List.mem_append_right _ (List.mem_of_getElem? (i := 42) rfl))) rfl
theorem kw_284 : Cond.laysFinal "BusSleepModel" "BusSleepModel" "called" "[J" ∈ kB_l := kB_of (List.mem_append_right _ (List.mem_append_right _ (List.mem_of_getElem? (i := 44) rfl))) rfl
theorem kw_286 : Cond.laysFinal "BusSleepModel" "BusSleepModel" "ever" "[Z" ∈ kB_l := kB_of (List.mem_append_right _ (List.mem_append_right _ (List.mem_of_getElem? (i := 46) rfl))) rfl
theorem kw_288 : Cond.lays "BusSleepModel" "BusSleepModel" "now" "J" ∈ kB_l := kB_of (List.mem_append_right _ (List.mem_append_right _ (List.mem_of_getElem? (i := 48) rfl))) rfl
theorem kw_290 : Cond.lays "BusSleepModel" "BusSleepModel" "changes" "I" ∈ kB_l := kB_of (List.mem_append_right _ (List.mem_append_right _ (List.mem_of_getElem? (i := 50) rfl))) rfl
theorem kw_292 : Cond.superclass "BusSleepModel" "java/lang/Object" ∈ kB_l := kB_of (List.mem_append_right _ (List.mem_append_right _ (List.mem_of_getElem? (i := 52) rfl))) rfl
theorem kw_293 : Cond.arrayClass FieldType.int ∈ kB_l := kB_of (List.mem_append_right _ (List.mem_append_right _ (List.mem_of_getElem? (i := 53) rfl))) rfl
theorem kw_294 : Cond.arrayClass FieldType.boolean ∈ kB_l := kB_of (List.mem_append_right _ (List.mem_append_right _ (List.mem_of_getElem? (i := 54) rfl))) rfl
theorem kw_295 : Cond.methodLink "BusSleepLaw" 25 ⟨"BusSleepModel", "request", "(IZ)I"⟩ ∈ kB_l := kB_of (List.mem_append_right _ (List.mem_append_right _ (List.mem_of_getElem? (i := 55) rfl))) rfl
theorem kw_296 : Cond.instanceMethod ⟨"BusSleepModel", "request", "(IZ)I"⟩ ∈ kB_l := kB_of (List.mem_append_right _ (List.mem_append_right _ (List.mem_of_getElem? (i := 56) rfl))) rfl
theorem kw_297 : Cond.selects "BusSleepModel" ⟨"BusSleepModel", "request", "(IZ)I"⟩ ⟨"BusSleepModel", "request", "(IZ)I"⟩ ∈ kB_l := kB_of (List.mem_append_right _ (List.mem_append_right _ (List.mem_of_getElem? (i := 57) rfl))) rfl
theorem kw_298 : Cond.code ⟨"BusSleepModel", "request", "(IZ)I"⟩ prog_5_method_14_code 3 (some .int) ∈ kB_l := kB_of (List.mem_append_right _ (List.mem_append_right _ (List.mem_of_getElem? (i := 58) rfl))) rfl
theorem kw_299 : Cond.methodLink "BusSleepModel" 104 ⟨"BusSleepModel", "none", "(I)Z"⟩ ∈ kB_l := kB_of (List.mem_append_right _ (List.mem_append_right _ (List.mem_of_getElem? (i := 59) rfl))) rfl
theorem kw_301 : Cond.instanceMethod ⟨"BusSleepModel", "none", "(I)Z"⟩ ∈ kB_l := kB_of (List.mem_append_right _ (List.mem_append_right _ (List.mem_of_getElem? (i := 61) rfl))) rfl
theorem kw_302 : Cond.code ⟨"BusSleepModel", "none", "(I)Z"⟩ prog_5_method_3_code 2 (some .boolean) ∈ kB_l := kB_of (List.mem_append_right _ (List.mem_append_right _ (List.mem_of_getElem? (i := 62) rfl))) rfl
theorem kw_303 : Cond.methodLink "BusSleepModel" 77 ⟨"BusSleepModel", "wants", "(I)Z"⟩ ∈ kB_l := kB_of (List.mem_append_right _ (List.mem_append_right _ (List.mem_of_getElem? (i := 63) rfl))) rfl
theorem kw_305 : Cond.instanceMethod ⟨"BusSleepModel", "wants", "(I)Z"⟩ ∈ kB_l := kB_of (List.mem_append_right _ (List.mem_append_right _ (List.mem_of_getElem? (i := 65) rfl))) rfl
theorem kw_306 : Cond.code ⟨"BusSleepModel", "wants", "(I)Z"⟩ prog_5_method_5_code 2 (some .boolean) ∈ kB_l := kB_of (List.mem_append_right _ (List.mem_append_right _ (List.mem_of_getElem? (i := 66) rfl))) rfl
theorem kw_307 : Cond.methodLink "BusSleepModel" 73 ⟨"BusSleepModel", "wakes", "(I)V"⟩ ∈ kB_l := kB_of (List.mem_append_right _ (List.mem_append_right _ (List.mem_of_getElem? (i := 67) rfl))) rfl
theorem kw_309 : Cond.instanceMethod ⟨"BusSleepModel", "wakes", "(I)V"⟩ ∈ kB_l := kB_of (List.mem_append_right _ (List.mem_append_right _ (List.mem_of_getElem? (i := 69) rfl))) rfl
theorem kw_310 : Cond.code ⟨"BusSleepModel", "wakes", "(I)V"⟩ prog_5_method_7_code 2 none ∈ kB_l := kB_of (List.mem_append_right _ (List.mem_append_right _ (List.mem_of_getElem? (i := 70) rfl))) rfl
theorem kw_311 : Cond.methodLink "BusSleepModel" 65 ⟨"BusSleepModel", "become", "(II)V"⟩ ∈ kB_l := kB_of (List.mem_append_right _ (List.mem_append_right _ (List.mem_of_getElem? (i := 71) rfl))) rfl
theorem kw_313 : Cond.instanceMethod ⟨"BusSleepModel", "become", "(II)V"⟩ ∈ kB_l := kB_of (List.mem_append_right _ (List.mem_append_right _ (List.mem_of_getElem? (i := 73) rfl))) rfl
theorem kw_314 : Cond.code ⟨"BusSleepModel", "become", "(II)V"⟩ prog_5_method_6_code 3 none ∈ kB_l := kB_of (List.mem_append_right _ (List.mem_append_right _ (List.mem_of_getElem? (i := 74) rfl))) rfl
theorem kw_315 : Cond.methodLink "BusSleepLaw" 32 ⟨"BusSleepModel", "alive", "(IJ)I"⟩ ∈ kB_l := kB_of (List.mem_append_right _ (List.mem_append_right _ (List.mem_of_getElem? (i := 75) rfl))) rfl
theorem kw_316 : Cond.instanceMethod ⟨"BusSleepModel", "alive", "(IJ)I"⟩ ∈ kB_l := kB_of (List.mem_append_right _ (List.mem_append_right _ (List.mem_of_getElem? (i := 76) rfl))) rfl
theorem kw_317 : Cond.selects "BusSleepModel" ⟨"BusSleepModel", "alive", "(IJ)I"⟩ ⟨"BusSleepModel", "alive", "(IJ)I"⟩ ∈ kB_l := kB_of (List.mem_append_right _ (List.mem_append_right _ (List.mem_of_getElem? (i := 77) rfl))) rfl
theorem kw_318 : Cond.code ⟨"BusSleepModel", "alive", "(IJ)I"⟩ prog_5_method_15_code 4 (some .int) ∈ kB_l := kB_of (List.mem_append_right _ (List.mem_append_right _ (List.mem_of_getElem? (i := 78) rfl))) rfl
theorem kw_319 : Cond.methodLink "BusSleepModel" 107 ⟨"BusSleepModel", "bad", "(J)Z"⟩ ∈ kB_l := kB_of (List.mem_append_right _ (List.mem_append_right _ (List.mem_of_getElem? (i := 79) rfl))) rfl
theorem kw_321 : Cond.instanceMethod ⟨"BusSleepModel", "bad", "(J)Z"⟩ ∈ kB_l := kB_of (List.mem_append_right _ (List.mem_append_right _ (List.mem_of_getElem? (i := 81) rfl))) rfl
theorem kw_322 : Cond.code ⟨"BusSleepModel", "bad", "(J)Z"⟩ prog_5_method_12_code 3 (some .boolean) ∈ kB_l := kB_of (List.mem_append_right _ (List.mem_append_right _ (List.mem_of_getElem? (i := 82) rfl))) rfl
theorem kw_323 : Cond.constantLong "BusSleepModel" 99 (1000 : Int64) ∈ kB_l := kB_of (List.mem_append_right _ (List.mem_append_right _ (List.mem_of_getElem? (i := 83) rfl))) rfl
theorem kw_324 : Cond.methodLink "BusSleepModel" 111 ⟨"BusSleepModel", "go", "(J)V"⟩ ∈ kB_l := kB_of (List.mem_append_right _ (List.mem_append_right _ (List.mem_of_getElem? (i := 84) rfl))) rfl
theorem kw_326 : Cond.instanceMethod ⟨"BusSleepModel", "go", "(J)V"⟩ ∈ kB_l := kB_of (List.mem_append_right _ (List.mem_append_right _ (List.mem_of_getElem? (i := 86) rfl))) rfl
theorem kw_327 : Cond.code ⟨"BusSleepModel", "go", "(J)V"⟩ prog_5_method_13_code 3 none ∈ kB_l := kB_of (List.mem_append_right _ (List.mem_append_right _ (List.mem_of_getElem? (i := 87) rfl))) rfl
theorem kw_328 : Cond.methodLink "BusSleepModel" 101 ⟨"BusSleepModel", "oneTick", "()V"⟩ ∈ kB_l := kB_of (List.mem_append_right _ (List.mem_append_right _ (List.mem_of_getElem? (i := 88) rfl))) rfl
theorem kw_330 : Cond.instanceMethod ⟨"BusSleepModel", "oneTick", "()V"⟩ ∈ kB_l := kB_of (List.mem_append_right _ (List.mem_append_right _ (List.mem_of_getElem? (i := 90) rfl))) rfl
theorem kw_331 : Cond.code ⟨"BusSleepModel", "oneTick", "()V"⟩ prog_5_method_11_code 4 none ∈ kB_l := kB_of (List.mem_append_right _ (List.mem_append_right _ (List.mem_of_getElem? (i := 91) rfl))) rfl
theorem kw_332 : Cond.constantLong "BusSleepModel" 87 (20 : Int64) ∈ kB_l := kB_of (List.mem_append_right _ (List.mem_append_right _ (List.mem_of_getElem? (i := 92) rfl))) rfl
theorem kw_333 : Cond.methodLink "BusSleepModel" 89 ⟨"BusSleepModel", "still", "(I)Z"⟩ ∈ kB_l := kB_of (List.mem_append_right _ (List.mem_append_right _ (List.mem_of_getElem? (i := 93) rfl))) rfl
theorem kw_335 : Cond.instanceMethod ⟨"BusSleepModel", "still", "(I)Z"⟩ ∈ kB_l := kB_of (List.mem_append_right _ (List.mem_append_right _ (List.mem_of_getElem? (i := 95) rfl))) rfl
theorem kw_336 : Cond.code ⟨"BusSleepModel", "still", "(I)Z"⟩ prog_5_method_10_code 5 (some .boolean) ∈ kB_l := kB_of (List.mem_append_right _ (List.mem_append_right _ (List.mem_of_getElem? (i := 96) rfl))) rfl
theorem kw_337 : Cond.constantLong "BusSleepModel" 81 (10 : Int64) ∈ kB_l := kB_of (List.mem_append_right _ (List.mem_append_right _ (List.mem_of_getElem? (i := 97) rfl))) rfl
theorem kw_338 : Cond.methodLink "BusSleepModel" 69 ⟨"BusSleepModel", "bus", "(I)I"⟩ ∈ kB_l := kB_of (List.mem_append_right _ (List.mem_append_right _ (List.mem_of_getElem? (i := 98) rfl))) rfl
theorem kw_339 : Cond.static ⟨"BusSleepModel", "bus", "(I)I"⟩ ∈ kB_l := kB_of (List.mem_append_right _ (List.mem_append_right _ (List.mem_of_getElem? (i := 99) rfl))) rfl
theorem kw_340 : Cond.code ⟨"BusSleepModel", "bus", "(I)I"⟩ prog_5_method_4_code 1 (some .int) ∈ kB_l := kB_of (List.mem_append_right _ (List.mem_append_right _ (List.mem_of_getElem? (i := 100) rfl))) rfl
theorem kw_341 : Cond.methodLink "BusSleepModel" 83 ⟨"BusSleepModel", "one", "(II)Z"⟩ ∈ kB_l := kB_of (List.mem_append_right _ (List.mem_append_right _ (List.mem_of_getElem? (i := 101) rfl))) rfl
theorem kw_343 : Cond.instanceMethod ⟨"BusSleepModel", "one", "(II)Z"⟩ ∈ kB_l := kB_of (List.mem_append_right _ (List.mem_append_right _ (List.mem_of_getElem? (i := 103) rfl))) rfl
theorem kw_344 : Cond.code ⟨"BusSleepModel", "one", "(II)Z"⟩ prog_5_method_9_code 3 (some .boolean) ∈ kB_l := kB_of (List.mem_append_right _ (List.mem_append_right _ (List.mem_of_getElem? (i := 104) rfl))) rfl
theorem kw_345 : Cond.constantLong "BusSleepModel" 92 (5 : Int64) ∈ kB_l := kB_of (List.mem_append_right _ (List.mem_append_right _ (List.mem_of_getElem? (i := 105) rfl))) rfl
theorem kw_346 : Cond.constantLong "BusSleepModel" 94 (3 : Int64) ∈ kB_l := kB_of (List.mem_append_right _ (List.mem_append_right _ (List.mem_of_getElem? (i := 106) rfl))) rfl
theorem kw_347 : Cond.methodLink "BusSleepModel" 96 ⟨"BusSleepModel", "row", "(I)I"⟩ ∈ kB_l := kB_of (List.mem_append_right _ (List.mem_append_right _ (List.mem_of_getElem? (i := 107) rfl))) rfl
theorem kw_349 : Cond.instanceMethod ⟨"BusSleepModel", "row", "(I)I"⟩ ∈ kB_l := kB_of (List.mem_append_right _ (List.mem_append_right _ (List.mem_of_getElem? (i := 109) rfl))) rfl
theorem kw_350 : Cond.code ⟨"BusSleepModel", "row", "(I)I"⟩ prog_5_method_8_code 4 (some .int) ∈ kB_l := kB_of (List.mem_append_right _ (List.mem_append_right _ (List.mem_of_getElem? (i := 110) rfl))) rfl
theorem kw_351 : Cond.methodLink "BusSleepLaw" 37 ⟨"BusSleepModel", "tick", "(J)I"⟩ ∈ kB_l := kB_of (List.mem_append_right _ (List.mem_append_right _ (List.mem_of_getElem? (i := 111) rfl))) rfl
theorem kw_352 : Cond.instanceMethod ⟨"BusSleepModel", "tick", "(J)I"⟩ ∈ kB_l := kB_of (List.mem_append_right _ (List.mem_append_right _ (List.mem_of_getElem? (i := 112) rfl))) rfl
theorem kw_353 : Cond.selects "BusSleepModel" ⟨"BusSleepModel", "tick", "(J)I"⟩ ⟨"BusSleepModel", "tick", "(J)I"⟩ ∈ kB_l := kB_of (List.mem_append_right _ (List.mem_append_right _ (List.mem_of_getElem? (i := 113) rfl))) rfl
theorem kw_354 : Cond.code ⟨"BusSleepModel", "tick", "(J)I"⟩ prog_5_method_16_code 3 (some .int) ∈ kB_l := kB_of (List.mem_append_right _ (List.mem_append_right _ (List.mem_of_getElem? (i := 114) rfl))) rfl
theorem kw_355 : Cond.methodLink "BusSleepLaw" 42 ⟨"BusSleepModel", "state", "(I)I"⟩ ∈ kB_l := kB_of (List.mem_append_right _ (List.mem_append_right _ (List.mem_of_getElem? (i := 115) rfl))) rfl
theorem kw_356 : Cond.instanceMethod ⟨"BusSleepModel", "state", "(I)I"⟩ ∈ kB_l := kB_of (List.mem_append_right _ (List.mem_append_right _ (List.mem_of_getElem? (i := 116) rfl))) rfl
theorem kw_357 : Cond.selects "BusSleepModel" ⟨"BusSleepModel", "state", "(I)I"⟩ ⟨"BusSleepModel", "state", "(I)I"⟩ ∈ kB_l := kB_of (List.mem_append_right _ (List.mem_append_right _ (List.mem_of_getElem? (i := 117) rfl))) rfl
theorem kw_358 : Cond.code ⟨"BusSleepModel", "state", "(I)I"⟩ prog_5_method_17_code 2 (some .int) ∈ kB_l := kB_of (List.mem_append_right _ (List.mem_append_right _ (List.mem_of_getElem? (i := 118) rfl))) rfl
theorem kw_359 : Cond.methodLink "BusSleepLaw" 46 ⟨"BusSleepModel", "wake", "(IJ)I"⟩ ∈ kB_l := kB_of (List.mem_append_right _ (List.mem_append_right _ (List.mem_of_getElem? (i := 119) rfl))) rfl
theorem kw_360 : Cond.instanceMethod ⟨"BusSleepModel", "wake", "(IJ)I"⟩ ∈ kB_l := kB_of (List.mem_append_right _ (List.mem_append_right _ (List.mem_of_getElem? (i := 120) rfl))) rfl
theorem kw_361 : Cond.selects "BusSleepModel" ⟨"BusSleepModel", "wake", "(IJ)I"⟩ ⟨"BusSleepModel", "wake", "(IJ)I"⟩ ∈ kB_l := kB_of (List.mem_append_right _ (List.mem_append_right _ (List.mem_of_getElem? (i := 121) rfl))) rfl
theorem kw_362 : Cond.code ⟨"BusSleepModel", "wake", "(IJ)I"⟩ prog_5_method_18_code 6 (some .int) ∈ kB_l := kB_of (List.mem_append_right _ (List.mem_append_right _ (List.mem_of_getElem? (i := 122) rfl))) rfl
theorem kw_363 : Cond.methodLink "BusSleepLaw" 51 ⟨"BusSleepModel", "bit", "(IIZ)I"⟩ ∈ kB_l := kB_of (List.mem_append_right _ (List.mem_append_right _ (List.mem_of_getElem? (i := 123) rfl))) rfl
theorem kw_364 : Cond.instanceMethod ⟨"BusSleepModel", "bit", "(IIZ)I"⟩ ∈ kB_l := kB_of (List.mem_append_right _ (List.mem_append_right _ (List.mem_of_getElem? (i := 124) rfl))) rfl
theorem kw_365 : Cond.selects "BusSleepModel" ⟨"BusSleepModel", "bit", "(IIZ)I"⟩ ⟨"BusSleepModel", "bit", "(IIZ)I"⟩ ∈ kB_l := kB_of (List.mem_append_right _ (List.mem_append_right _ (List.mem_of_getElem? (i := 125) rfl))) rfl
theorem kw_366 : Cond.code ⟨"BusSleepModel", "bit", "(IIZ)I"⟩ prog_5_method_19_code 6 (some .int) ∈ kB_l := kB_of (List.mem_append_right _ (List.mem_append_right _ (List.mem_of_getElem? (i := 126) rfl))) rfl
theorem kw_367 : Cond.methodLink "BusSleepLaw" 55 ⟨"BusSleepModel", "needs", "(IJ)I"⟩ ∈ kB_l := kB_of (List.mem_append_right _ (List.mem_append_right _ (List.mem_of_getElem? (i := 127) rfl))) rfl
theorem kw_368 : Cond.instanceMethod ⟨"BusSleepModel", "needs", "(IJ)I"⟩ ∈ kB_l := kB_of (List.mem_append_right _ (List.mem_append_right _ (List.mem_of_getElem? (i := 128) rfl))) rfl
theorem kw_369 : Cond.selects "BusSleepModel" ⟨"BusSleepModel", "needs", "(IJ)I"⟩ ⟨"BusSleepModel", "needs", "(IJ)I"⟩ ∈ kB_l := kB_of (List.mem_append_right _ (List.mem_append_right _ (List.mem_of_getElem? (i := 129) rfl))) rfl
theorem kw_370 : Cond.code ⟨"BusSleepModel", "needs", "(IJ)I"⟩ prog_5_method_20_code 7 (some .int) ∈ kB_l := kB_of (List.mem_append_right _ (List.mem_append_right _ (List.mem_of_getElem? (i := 130) rfl))) rfl
theorem kw_371 : Cond.constantLong "BusSleepModel" 115 (11 : Int64) ∈ kB_l := kB_of (List.mem_append_right _ (List.mem_append_right _ (List.mem_of_getElem? (i := 131) rfl))) rfl
theorem kw_372 : Cond.methodLink "BusSleepLaw" 60 ⟨"BusSleepModel", "coordinate", "(II)I"⟩ ∈ kB_l := kB_of (List.mem_append_right _ (List.mem_append_right _ (List.mem_of_getElem? (i := 132) rfl))) rfl
theorem kw_373 : Cond.instanceMethod ⟨"BusSleepModel", "coordinate", "(II)I"⟩ ∈ kB_l := kB_of (List.mem_append_right _ (List.mem_append_right _ (List.mem_of_getElem? (i := 133) rfl))) rfl
theorem kw_374 : Cond.selects "BusSleepModel" ⟨"BusSleepModel", "coordinate", "(II)I"⟩ ⟨"BusSleepModel", "coordinate", "(II)I"⟩ ∈ kB_l := kB_of (List.mem_append_right _ (List.mem_append_right _ (List.mem_of_getElem? (i := 134) rfl))) rfl
theorem kw_375 : Cond.code ⟨"BusSleepModel", "coordinate", "(II)I"⟩ prog_5_method_21_code 8 (some .int) ∈ kB_l := kB_of (List.mem_append_right _ (List.mem_append_right _ (List.mem_of_getElem? (i := 135) rfl))) rfl
theorem kw_376 : Cond.methodLink "BusSleepLaw" 64 ⟨"BusSleepModel", "passive", "(IZ)I"⟩ ∈ kB_l := kB_of (List.mem_append_right _ (List.mem_append_right _ (List.mem_of_getElem? (i := 136) rfl))) rfl
theorem kw_377 : Cond.instanceMethod ⟨"BusSleepModel", "passive", "(IZ)I"⟩ ∈ kB_l := kB_of (List.mem_append_right _ (List.mem_append_right _ (List.mem_of_getElem? (i := 137) rfl))) rfl
theorem kw_378 : Cond.selects "BusSleepModel" ⟨"BusSleepModel", "passive", "(IZ)I"⟩ ⟨"BusSleepModel", "passive", "(IZ)I"⟩ ∈ kB_l := kB_of (List.mem_append_right _ (List.mem_append_right _ (List.mem_of_getElem? (i := 138) rfl))) rfl
theorem kw_379 : Cond.code ⟨"BusSleepModel", "passive", "(IZ)I"⟩ prog_5_method_22_code 3 (some .int) ∈ kB_l := kB_of (List.mem_append_right _ (List.mem_append_right _ (List.mem_of_getElem? (i := 139) rfl))) rfl
theorem kw_380 : Cond.methodLink "BusSleepLaw" 68 ⟨"BusSleepModel", "never", "(I)I"⟩ ∈ kB_l := kB_of (List.mem_append_right _ (List.mem_append_right _ (List.mem_of_getElem? (i := 140) rfl))) rfl
theorem kw_381 : Cond.instanceMethod ⟨"BusSleepModel", "never", "(I)I"⟩ ∈ kB_l := kB_of (List.mem_append_right _ (List.mem_append_right _ (List.mem_of_getElem? (i := 141) rfl))) rfl
theorem kw_382 : Cond.selects "BusSleepModel" ⟨"BusSleepModel", "never", "(I)I"⟩ ⟨"BusSleepModel", "never", "(I)I"⟩ ∈ kB_l := kB_of (List.mem_append_right _ (List.mem_append_right _ (List.mem_of_getElem? (i := 142) rfl))) rfl
theorem kw_383 : Cond.code ⟨"BusSleepModel", "never", "(I)I"⟩ prog_5_method_23_code 4 (some .int) ∈ kB_l := kB_of (List.mem_append_right _ (List.mem_append_right _ (List.mem_of_getElem? (i := 143) rfl))) rfl
theorem kw_384 : Cond.constantLong "BusSleepModel" 117 (199 : Int64) ∈ kB_l := kB_of (List.mem_append_right _ (List.mem_append_right _ (List.mem_of_getElem? (i := 144) rfl))) rfl
theorem kw_385 : Cond.methodLink "BusSleepLaw" 72 ⟨"BusSleepModel", "limp", "(IJ)I"⟩ ∈ kB_l := kB_of (List.mem_append_right _ (List.mem_append_right _ (List.mem_of_getElem? (i := 145) rfl))) rfl
theorem kw_386 : Cond.instanceMethod ⟨"BusSleepModel", "limp", "(IJ)I"⟩ ∈ kB_l := kB_of (List.mem_append_right _ (List.mem_append_right _ (List.mem_of_getElem? (i := 146) rfl))) rfl
theorem kw_387 : Cond.selects "BusSleepModel" ⟨"BusSleepModel", "limp", "(IJ)I"⟩ ⟨"BusSleepModel", "limp", "(IJ)I"⟩ ∈ kB_l := kB_of (List.mem_append_right _ (List.mem_append_right _ (List.mem_of_getElem? (i := 147) rfl))) rfl
theorem kw_388 : Cond.code ⟨"BusSleepModel", "limp", "(IJ)I"⟩ prog_5_method_24_code 4 (some .int) ∈ kB_l := kB_of (List.mem_append_right _ (List.mem_append_right _ (List.mem_of_getElem? (i := 148) rfl))) rfl
theorem kw_389 : Cond.methodLink "BusSleepLaw" 77 ⟨"BusSleepModel", "sleeps", "()Z"⟩ ∈ kB_l := kB_of (List.mem_append_right _ (List.mem_append_right _ (List.mem_of_getElem? (i := 149) rfl))) rfl
theorem kw_390 : Cond.instanceMethod ⟨"BusSleepModel", "sleeps", "()Z"⟩ ∈ kB_l := kB_of (List.mem_append_right _ (List.mem_append_right _ (List.mem_of_getElem? (i := 150) rfl))) rfl
theorem kw_391 : Cond.selects "BusSleepModel" ⟨"BusSleepModel", "sleeps", "()Z"⟩ ⟨"BusSleepModel", "sleeps", "()Z"⟩ ∈ kB_l := kB_of (List.mem_append_right _ (List.mem_append_right _ (List.mem_of_getElem? (i := 151) rfl))) rfl
theorem kw_392 : Cond.code ⟨"BusSleepModel", "sleeps", "()Z"⟩ prog_5_method_25_code 3 (some .boolean) ∈ kB_l := kB_of (List.mem_append_right _ (List.mem_append_right _ (List.mem_of_getElem? (i := 152) rfl))) rfl
theorem kw_393 : Cond.constantLong "BusSleepLaw" 26 (4294967295 : Int64) ∈ kB_l := kB_of (List.mem_append_right _ (List.mem_append_right _ (List.mem_of_getElem? (i := 153) rfl))) rfl
theorem ks_0 : Cond.selects "BusSleep" ⟨"BusSleep", "isNode", "(I)Z"⟩ ⟨"BusSleep", "isNode", "(I)Z"⟩ ∈ kB_l := kB_of (List.mem_append_left _ (List.mem_of_getElem? (i := 0) rfl)) rfl
theorem ks_1 : Cond.selects "BusSleep" ⟨"BusSleep", "wakeUp", "(LBusSleep$Node;)V"⟩ ⟨"BusSleep", "wakeUp", "(LBusSleep$Node;)V"⟩ ∈ kB_l := kB_of (List.mem_append_left _ (List.mem_of_getElem? (i := 1) rfl)) rfl
theorem ks_2 : Cond.selects "BusSleep" ⟨"BusSleep", "comeTo", "(LBusSleep$Node;I)V"⟩ ⟨"BusSleep", "comeTo", "(LBusSleep$Node;I)V"⟩ ∈ kB_l := kB_of (List.mem_append_left _ (List.mem_of_getElem? (i := 2) rfl)) rfl
theorem ks_3 : Cond.selects "BusSleep" ⟨"BusSleep", "isTime", "(J)Z"⟩ ⟨"BusSleep", "isTime", "(J)Z"⟩ ∈ kB_l := kB_of (List.mem_append_left _ (List.mem_of_getElem? (i := 3) rfl)) rfl
theorem ks_4 : Cond.selects "BusSleep" ⟨"BusSleep", "goOn", "(J)V"⟩ ⟨"BusSleep", "goOn", "(J)V"⟩ ∈ kB_l := kB_of (List.mem_append_left _ (List.mem_of_getElem? (i := 4) rfl)) rfl
theorem ks_5 : Cond.selects "BusSleep" ⟨"BusSleep", "changeStates", "()V"⟩ ⟨"BusSleep", "changeStates", "()V"⟩ ∈ kB_l := kB_of (List.mem_append_left _ (List.mem_of_getElem? (i := 5) rfl)) rfl
theorem ks_6 : Cond.selects "BusSleep" ⟨"BusSleep", "changeState", "(LBusSleep$Node;)V"⟩ ⟨"BusSleep", "changeState", "(LBusSleep$Node;)V"⟩ ∈ kB_l := kB_of (List.mem_append_left _ (List.mem_of_getElem? (i := 6) rfl)) rfl
theorem ks_7 : Cond.selects "BusSleep" ⟨"BusSleep", "isStill", "(I)Z"⟩ ⟨"BusSleep", "isStill", "(I)Z"⟩ ∈ kB_l := kB_of (List.mem_append_left _ (List.mem_of_getElem? (i := 7) rfl)) rfl
theorem ks_8 : Cond.selects "BusSleep" ⟨"BusSleep", "sendRows", "()V"⟩ ⟨"BusSleep", "sendRows", "()V"⟩ ∈ kB_l := kB_of (List.mem_append_left _ (List.mem_of_getElem? (i := 8) rfl)) rfl
theorem ks_9 : Cond.selects "BusSleep" ⟨"BusSleep", "sendRow", "(LBusSleep$Node;)I"⟩ ⟨"BusSleep", "sendRow", "(LBusSleep$Node;)I"⟩ ∈ kB_l := kB_of (List.mem_append_left _ (List.mem_of_getElem? (i := 9) rfl)) rfl
theorem ks_10 : Cond.selects "BusSleep" ⟨"BusSleep", "hear", "(LBusSleep$Node;)V"⟩ ⟨"BusSleep", "hear", "(LBusSleep$Node;)V"⟩ ∈ kB_l := kB_of (List.mem_append_left _ (List.mem_of_getElem? (i := 10) rfl)) rfl
theorem ks_11 : Cond.selects "BusSleep" ⟨"BusSleep", "callBits", "(LBusSleep$Bus;I)V"⟩ ⟨"BusSleep", "callBits", "(LBusSleep$Bus;I)V"⟩ ∈ kB_l := kB_of (List.mem_append_left _ (List.mem_of_getElem? (i := 11) rfl)) rfl
theorem ks_12 : Cond.selects "BusSleep" ⟨"BusSleep", "wasCalled", "(LBusSleep$Bus;I)Z"⟩ ⟨"BusSleep", "wasCalled", "(LBusSleep$Bus;I)Z"⟩ ∈ kB_l := kB_of (List.mem_append_left _ (List.mem_of_getElem? (i := 12) rfl)) rfl
theorem ks_13 : Cond.selects "BusSleep" ⟨"BusSleep", "isBus", "(I)Z"⟩ ⟨"BusSleep", "isBus", "(I)Z"⟩ ∈ kB_l := kB_of (List.mem_append_left _ (List.mem_of_getElem? (i := 13) rfl)) rfl
theorem ks_14 : Cond.selects "BusSleepModel" ⟨"BusSleepModel", "none", "(I)Z"⟩ ⟨"BusSleepModel", "none", "(I)Z"⟩ ∈ kB_l := kB_of (List.mem_append_left _ (List.mem_of_getElem? (i := 14) rfl)) rfl
theorem ks_15 : Cond.selects "BusSleepModel" ⟨"BusSleepModel", "wants", "(I)Z"⟩ ⟨"BusSleepModel", "wants", "(I)Z"⟩ ∈ kB_l := kB_of (List.mem_append_left _ (List.mem_of_getElem? (i := 15) rfl)) rfl
theorem ks_16 : Cond.selects "BusSleepModel" ⟨"BusSleepModel", "wakes", "(I)V"⟩ ⟨"BusSleepModel", "wakes", "(I)V"⟩ ∈ kB_l := kB_of (List.mem_append_left _ (List.mem_of_getElem? (i := 16) rfl)) rfl
theorem ks_17 : Cond.selects "BusSleepModel" ⟨"BusSleepModel", "become", "(II)V"⟩ ⟨"BusSleepModel", "become", "(II)V"⟩ ∈ kB_l := kB_of (List.mem_append_left _ (List.mem_of_getElem? (i := 17) rfl)) rfl
theorem ks_18 : Cond.selects "BusSleepModel" ⟨"BusSleepModel", "bad", "(J)Z"⟩ ⟨"BusSleepModel", "bad", "(J)Z"⟩ ∈ kB_l := kB_of (List.mem_append_left _ (List.mem_of_getElem? (i := 18) rfl)) rfl
theorem ks_19 : Cond.selects "BusSleepModel" ⟨"BusSleepModel", "go", "(J)V"⟩ ⟨"BusSleepModel", "go", "(J)V"⟩ ∈ kB_l := kB_of (List.mem_append_left _ (List.mem_of_getElem? (i := 19) rfl)) rfl
theorem ks_20 : Cond.selects "BusSleepModel" ⟨"BusSleepModel", "oneTick", "()V"⟩ ⟨"BusSleepModel", "oneTick", "()V"⟩ ∈ kB_l := kB_of (List.mem_append_left _ (List.mem_of_getElem? (i := 20) rfl)) rfl
theorem ks_21 : Cond.selects "BusSleepModel" ⟨"BusSleepModel", "still", "(I)Z"⟩ ⟨"BusSleepModel", "still", "(I)Z"⟩ ∈ kB_l := kB_of (List.mem_append_left _ (List.mem_of_getElem? (i := 21) rfl)) rfl
theorem ks_22 : Cond.selects "BusSleepModel" ⟨"BusSleepModel", "one", "(II)Z"⟩ ⟨"BusSleepModel", "one", "(II)Z"⟩ ∈ kB_l := kB_of (List.mem_append_left _ (List.mem_of_getElem? (i := 22) rfl)) rfl
theorem ks_23 : Cond.selects "BusSleepModel" ⟨"BusSleepModel", "row", "(I)I"⟩ ⟨"BusSleepModel", "row", "(I)I"⟩ ∈ kB_l := kB_of (List.mem_append_left _ (List.mem_of_getElem? (i := 23) rfl)) rfl
theorem ki_B : ∀ w ∈ u_ws kR_B kT_B 4, w ∈ kB_l := by decide +kernel
theorem ki_N : ∀ w ∈ u_ws kR_N kT_N 10, w ∈ kB_l := by decide +kernel
theorem ki_S : ∀ w ∈ u_ws kR_S kT_S 4, w ∈ kB_l := by decide +kernel
theorem ki_M : ∀ w ∈ u_ws kR_M kT_M 17, w ∈ kB_l := by decide +kernel
