/-! Names: classes, fields, methods, the words of the tables that are used: printed by my program out of javap and the tables -/
/-- the words that a callee may have too -/
def lw_g : List Cond := lw_tbl.filter goodWord
theorem g_tbl : GoodIn lw_g lw_g := fun w hw => ⟨hw, good_of_word (List.mem_filter.mp hw).2⟩
theorem g_in {w : Cond} (h : w ∈ lw_tbl) (g : goodWord w = true) : w ∈ lw_g := List.mem_filter.mpr ⟨h, g⟩
/-- a method's words: its code, and all those -/
theorem g_cons {w : Cond} (h : w ∈ lw_g) : GoodIn lw_g (w :: lw_g) := fun x hx => by
  rcases List.mem_cons.mp hx with z | z
  · subst z
    exact g_tbl x h
  · exact g_tbl x z
abbrev R_Msg : String := "HomeDirectory$Message"
def F_Msg : u_T := fun k => match k with
  | 0 => ("HomeDirectory$Message", "kind", "I", false)
  | 1 => ("HomeDirectory$Message", "sender", "I", false)
  | 2 => ("HomeDirectory$Message", "receiver", "I", false)
  | 3 => ("HomeDirectory$Message", "block", "I", false)
  | 4 => ("HomeDirectory$Message", "word", "I", false)
  | 5 => ("HomeDirectory$Message", "number", "I", false)
  | _ => ("HomeDirectory$Message", "requester", "I", false)
def t_Msg : Nat → FieldType := fun k => match k with
  | 0 => .int
  | 1 => .int
  | 2 => .int
  | 3 => .int
  | 4 => .int
  | 5 => .int
  | _ => .int
theorem n_Msg : ∀ a, a < 7 → ∀ b, b < 7 → a ≠ b → (F_Msg a).2.1 ≠ (F_Msg b).2.1 := by decide +kernel
theorem t_Msg_ok : ∀ k, k < 7 → parseFieldDescriptor (F_Msg k).2.2.1 = some (t_Msg k) := by decide +kernel
theorem i_Msg : ∀ w ∈ u_ws R_Msg F_Msg 7, w ∈ lw_g := by decide +kernel
abbrev R_Net : String := "HomeDirectory$Network"
def F_Net : u_T := fun k => match k with
  | 0 => ("HomeDirectory$Network", "slots", "[LHomeDirectory$Message;", true)
  | 1 => ("HomeDirectory$Network", "count", "I", false)
  | _ => ("HomeDirectory$Network", "sentInAll", "I", false)
def t_Net : Nat → FieldType := fun k => match k with
  | 0 => .array (.object "HomeDirectory$Message")
  | 1 => .int
  | _ => .int
theorem n_Net : ∀ a, a < 3 → ∀ b, b < 3 → a ≠ b → (F_Net a).2.1 ≠ (F_Net b).2.1 := by decide +kernel
theorem t_Net_ok : ∀ k, k < 3 → parseFieldDescriptor (F_Net k).2.2.1 = some (t_Net k) := by decide +kernel
theorem i_Net : ∀ w ∈ u_ws R_Net F_Net 3, w ∈ lw_g := by decide +kernel
abbrev R_Core : String := "HomeDirectory$Core"
def F_Core : u_T := fun k => match k with
  | 0 => ("HomeDirectory$Core", "number", "I", true)
  | 1 => ("HomeDirectory$Core", "mostInUse", "I", true)
  | 2 => ("HomeDirectory$Core", "network", "LHomeDirectory$Network;", true)
  | 3 => ("HomeDirectory$Core", "ops", "[I", true)
  | 4 => ("HomeDirectory$Core", "xs", "[I", true)
  | 5 => ("HomeDirectory$Core", "instructions", "I", false)
  | 6 => ("HomeDirectory$Core", "a", "I", false)
  | 7 => ("HomeDirectory$Core", "next", "I", false)
  | 8 => ("HomeDirectory$Core", "waitsFor", "I", false)
  | 9 => ("HomeDirectory$Core", "states", "[I", true)
  | 10 => ("HomeDirectory$Core", "words", "[I", true)
  | 11 => ("HomeDirectory$Core", "missing", "[I", true)
  | 12 => ("HomeDirectory$Core", "latestUse", "[I", true)
  | _ => ("HomeDirectory$Core", "accesses", "I", false)
def t_Core : Nat → FieldType := fun k => match k with
  | 0 => .int
  | 1 => .int
  | 2 => .object "HomeDirectory$Network"
  | 3 => .array .int
  | 4 => .array .int
  | 5 => .int
  | 6 => .int
  | 7 => .int
  | 8 => .int
  | 9 => .array .int
  | 10 => .array .int
  | 11 => .array .int
  | 12 => .array .int
  | _ => .int
theorem n_Core : ∀ a, a < 14 → ∀ b, b < 14 → a ≠ b → (F_Core a).2.1 ≠ (F_Core b).2.1 := by decide +kernel
theorem t_Core_ok : ∀ k, k < 14 → parseFieldDescriptor (F_Core k).2.2.1 = some (t_Core k) := by decide +kernel
theorem i_Core : ∀ w ∈ u_ws R_Core F_Core 14, w ∈ lw_g := by decide +kernel
abbrev R_Home : String := "HomeDirectory$Home"
def F_Home : u_T := fun k => match k with
  | 0 => ("HomeDirectory$Home", "network", "LHomeDirectory$Network;", true)
  | 1 => ("HomeDirectory$Home", "words", "[I", true)
  | 2 => ("HomeDirectory$Home", "states", "[I", true)
  | 3 => ("HomeDirectory$Home", "owners", "[I", true)
  | _ => ("HomeDirectory$Home", "sharers", "[I", true)
def t_Home : Nat → FieldType := fun k => match k with
  | 0 => .object "HomeDirectory$Network"
  | 1 => .array .int
  | 2 => .array .int
  | 3 => .array .int
  | _ => .array .int
theorem n_Home : ∀ a, a < 5 → ∀ b, b < 5 → a ≠ b → (F_Home a).2.1 ≠ (F_Home b).2.1 := by decide +kernel
theorem t_Home_ok : ∀ k, k < 5 → parseFieldDescriptor (F_Home k).2.2.1 = some (t_Home k) := by decide +kernel
theorem i_Home : ∀ w ∈ u_ws R_Home F_Home 5, w ∈ lw_g := by decide +kernel
abbrev R_HD : String := "HomeDirectory"
def F_HD : u_T := fun k => match k with
  | 0 => ("HomeDirectory", "network", "LHomeDirectory$Network;", true)
  | 1 => ("HomeDirectory", "directory", "LHomeDirectory$Home;", true)
  | _ => ("HomeDirectory", "cores", "[LHomeDirectory$Core;", true)
def t_HD : Nat → FieldType := fun k => match k with
  | 0 => .object "HomeDirectory$Network"
  | 1 => .object "HomeDirectory$Home"
  | _ => .array (.object "HomeDirectory$Core")
theorem n_HD : ∀ a, a < 3 → ∀ b, b < 3 → a ≠ b → (F_HD a).2.1 ≠ (F_HD b).2.1 := by decide +kernel
theorem t_HD_ok : ∀ k, k < 3 → parseFieldDescriptor (F_HD k).2.2.1 = some (t_HD k) := by decide +kernel
theorem i_HD : ∀ w ∈ u_ws R_HD F_HD 3, w ∈ lw_g := by decide +kernel
abbrev R_Mod : String := "HomeDirectoryModel"
def F_Mod : u_T := fun k => match k with
  | 0 => ("HomeDirectoryModel", "cores", "I", true)
  | 1 => ("HomeDirectoryModel", "most", "I", true)
  | 2 => ("HomeDirectoryModel", "a", "[I", true)
  | 3 => ("HomeDirectoryModel", "ops", "[I", true)
  | 4 => ("HomeDirectoryModel", "xs", "[I", true)
  | 5 => ("HomeDirectoryModel", "size", "[I", true)
  | 6 => ("HomeDirectoryModel", "next", "[I", true)
  | 7 => ("HomeDirectoryModel", "waits", "[I", true)
  | 8 => ("HomeDirectoryModel", "state", "[I", true)
  | 9 => ("HomeDirectoryModel", "held", "[I", true)
  | 10 => ("HomeDirectoryModel", "missing", "[I", true)
  | 11 => ("HomeDirectoryModel", "used", "[I", true)
  | 12 => ("HomeDirectoryModel", "clock", "I", false)
  | 13 => ("HomeDirectoryModel", "stored", "[I", true)
  | 14 => ("HomeDirectoryModel", "kept", "[I", true)
  | 15 => ("HomeDirectoryModel", "owner", "[I", true)
  | 16 => ("HomeDirectoryModel", "shares", "[Z", true)
  | 17 => ("HomeDirectoryModel", "many", "I", false)
  | 18 => ("HomeDirectoryModel", "total", "I", false)
  | 19 => ("HomeDirectoryModel", "done", "I", false)
  | 20 => ("HomeDirectoryModel", "kind", "[I", true)
  | 21 => ("HomeDirectoryModel", "from", "[I", true)
  | 22 => ("HomeDirectoryModel", "to", "[I", true)
  | 23 => ("HomeDirectoryModel", "block", "[I", true)
  | 24 => ("HomeDirectoryModel", "value", "[I", true)
  | 25 => ("HomeDirectoryModel", "number", "[I", true)
  | _ => ("HomeDirectoryModel", "asker", "[I", true)
def t_Mod : Nat → FieldType := fun k => match k with
  | 0 => .int
  | 1 => .int
  | 2 => .array .int
  | 3 => .array .int
  | 4 => .array .int
  | 5 => .array .int
  | 6 => .array .int
  | 7 => .array .int
  | 8 => .array .int
  | 9 => .array .int
  | 10 => .array .int
  | 11 => .array .int
  | 12 => .int
  | 13 => .array .int
  | 14 => .array .int
  | 15 => .array .int
  | 16 => .array .boolean
  | 17 => .int
  | 18 => .int
  | 19 => .int
  | 20 => .array .int
  | 21 => .array .int
  | 22 => .array .int
  | 23 => .array .int
  | 24 => .array .int
  | 25 => .array .int
  | _ => .array .int
theorem n_Mod : ∀ a, a < 27 → ∀ b, b < 27 → a ≠ b → (F_Mod a).2.1 ≠ (F_Mod b).2.1 := by decide +kernel
theorem t_Mod_ok : ∀ k, k < 27 → parseFieldDescriptor (F_Mod k).2.2.1 = some (t_Mod k) := by decide +kernel
theorem i_Mod : ∀ w ∈ u_ws R_Mod F_Mod 27, w ∈ lw_g := by decide +kernel
abbrev R_Law : String := "HomeDirectoryLaw"
abbrev R_Int : String := "java/lang/Integer"
abbrev R_Arr : String := "java/util/Arrays"
abbrev R_Math : String := "java/lang/Math"
theorem hd_gV {own C : String} {idx : Nat} {y : MethodName} {ws : List Cond} (h : GoodIn lw_g ws) (h1 : Cond.methodLink own idx y ∈ lw_g) (h2 : Cond.instanceMethod y ∈ lw_g) (h3 : Cond.selects C y y ∈ lw_g) (h4 : Cond.initialized C ∈ lw_g) : GoodIn lw_g (wsV own idx C y ws) := by
  intro w hw
  unfold wsV at hw
  simp only [List.cons_append, List.nil_append, List.mem_cons] at hw
  rcases hw with z | z | z | z | z
  · subst z; exact g_tbl _ h1
  · subst z; exact g_tbl _ h2
  · subst z; exact g_tbl _ h3
  · subst z; exact g_tbl _ h4
  · exact h w z
theorem hd_gS {own : String} {idx : Nat} {y : MethodName} {ws : List Cond} (h : GoodIn lw_g ws) (h1 : Cond.methodLink own idx y ∈ lw_g) (h2 : Cond.static y ∈ lw_g) (h3 : Cond.initialized y.cls ∈ lw_g) : GoodIn lw_g (va_wsS own idx y ws) := by
  intro w hw
  unfold va_wsS at hw
  simp only [List.cons_append, List.nil_append, List.mem_cons] at hw
  rcases hw with z | z | z | z
  · subst z; exact g_tbl _ h1
  · subst z; exact g_tbl _ h2
  · subst z; exact g_tbl _ h3
  · exact h w z
abbrev b_HD_init : ByteArray := prog_1_method_1_code
abbrev y_HD_init : MethodName := ⟨"HomeDirectory", "<init>", "(II)V"⟩
def w_HD_init : List Cond := .code y_HD_init b_HD_init 5 none :: lw_g
set_option maxRecDepth 20000 in
theorem g_HD_init : GoodIn lw_g w_HD_init := g_cons (g_in (List.mem_append_right _ (List.mem_append_left _ (List.mem_of_getElem? (i := 14) rfl))) rfl)
abbrev b_HD_code : ByteArray := prog_1_method_2_code
abbrev y_HD_code : MethodName := ⟨"HomeDirectory", "code", "(III)Z"⟩
def w_HD_code : List Cond := .code y_HD_code b_HD_code 4 (some .boolean) :: lw_g
set_option maxRecDepth 20000 in
theorem g_HD_code : GoodIn lw_g w_HD_code := g_cons (g_in (List.mem_append_right _ (List.mem_append_left _ (List.mem_of_getElem? (i := 183) rfl))) rfl)
abbrev b_HD_go : ByteArray := prog_1_method_3_code
abbrev y_HD_go : MethodName := ⟨"HomeDirectory", "go", "(II)Z"⟩
def w_HD_go : List Cond := .code y_HD_go b_HD_go 3 (some .boolean) :: lw_g
set_option maxRecDepth 20000 in
theorem g_HD_go : GoodIn lw_g w_HD_go := g_cons (g_in (List.mem_append_right _ (List.mem_append_left _ (List.mem_of_getElem? (i := 204) rfl))) rfl)
abbrev b_HD_step : ByteArray := prog_1_method_4_code
abbrev y_HD_step : MethodName := ⟨"HomeDirectory", "step", "(I)I"⟩
def w_HD_step : List Cond := .code y_HD_step b_HD_step 2 (some .int) :: lw_g
set_option maxRecDepth 20000 in
theorem g_HD_step : GoodIn lw_g w_HD_step := g_cons (g_in (List.mem_append_right _ (List.mem_append_left _ (List.mem_of_getElem? (i := 212) rfl))) rfl)
abbrev b_HD_deliver : ByteArray := prog_1_method_5_code
abbrev y_HD_deliver : MethodName := ⟨"HomeDirectory", "deliver", "(I)I"⟩
def w_HD_deliver : List Cond := .code y_HD_deliver b_HD_deliver 3 (some .int) :: lw_g
set_option maxRecDepth 20000 in
theorem g_HD_deliver : GoodIn lw_g w_HD_deliver := g_cons (g_in (List.mem_append_right _ (List.mem_append_right _ (List.mem_append_left _ (List.mem_of_getElem? (i := 24) rfl)))) rfl)
abbrev b_HD_messages : ByteArray := prog_1_method_6_code
abbrev y_HD_messages : MethodName := ⟨"HomeDirectory", "messages", "()I"⟩
def w_HD_messages : List Cond := .code y_HD_messages b_HD_messages 1 (some .int) :: lw_g
set_option maxRecDepth 20000 in
theorem g_HD_messages : GoodIn lw_g w_HD_messages := g_cons (g_in (List.mem_append_right _ (List.mem_append_right _ (List.mem_append_left _ (List.mem_of_getElem? (i := 147) rfl)))) rfl)
abbrev b_HD_message : ByteArray := prog_1_method_7_code
abbrev y_HD_message : MethodName := ⟨"HomeDirectory", "message", "(II)I"⟩
def w_HD_message : List Cond := .code y_HD_message b_HD_message 3 (some .int) :: lw_g
set_option maxRecDepth 20000 in
theorem g_HD_message : GoodIn lw_g w_HD_message := g_cons (g_in (List.mem_append_right _ (List.mem_append_right _ (List.mem_append_left _ (List.mem_of_getElem? (i := 151) rfl)))) rfl)
abbrev b_HD_line : ByteArray := prog_1_method_8_code
abbrev y_HD_line : MethodName := ⟨"HomeDirectory", "line", "(II)I"⟩
def w_HD_line : List Cond := .code y_HD_line b_HD_line 3 (some .int) :: lw_g
set_option maxRecDepth 20000 in
theorem g_HD_line : GoodIn lw_g w_HD_line := g_cons (g_in (List.mem_append_right _ (List.mem_append_right _ (List.mem_append_left _ (List.mem_of_getElem? (i := 159) rfl)))) rfl)
abbrev b_HD_word : ByteArray := prog_1_method_9_code
abbrev y_HD_word : MethodName := ⟨"HomeDirectory", "word", "(II)I"⟩
def w_HD_word : List Cond := .code y_HD_word b_HD_word 3 (some .int) :: lw_g
set_option maxRecDepth 20000 in
theorem g_HD_word : GoodIn lw_g w_HD_word := g_cons (g_in (List.mem_append_right _ (List.mem_append_right _ (List.mem_append_left _ (List.mem_of_getElem? (i := 164) rfl)))) rfl)
abbrev b_HD_home : ByteArray := prog_1_method_10_code
abbrev y_HD_home : MethodName := ⟨"HomeDirectory", "home", "(I)I"⟩
def w_HD_home : List Cond := .code y_HD_home b_HD_home 2 (some .int) :: lw_g
set_option maxRecDepth 20000 in
theorem g_HD_home : GoodIn lw_g w_HD_home := g_cons (g_in (List.mem_append_right _ (List.mem_append_right _ (List.mem_append_left _ (List.mem_of_getElem? (i := 172) rfl)))) rfl)
abbrev b_HD_memory : ByteArray := prog_1_method_11_code
abbrev y_HD_memory : MethodName := ⟨"HomeDirectory", "memory", "(I)I"⟩
def w_HD_memory : List Cond := .code y_HD_memory b_HD_memory 2 (some .int) :: lw_g
set_option maxRecDepth 20000 in
theorem g_HD_memory : GoodIn lw_g w_HD_memory := g_cons (g_in (List.mem_append_right _ (List.mem_append_right _ (List.mem_append_left _ (List.mem_of_getElem? (i := 180) rfl)))) rfl)
abbrev b_HD_accumulator : ByteArray := prog_1_method_12_code
abbrev y_HD_accumulator : MethodName := ⟨"HomeDirectory", "accumulator", "(I)I"⟩
def w_HD_accumulator : List Cond := .code y_HD_accumulator b_HD_accumulator 2 (some .int) :: lw_g
set_option maxRecDepth 20000 in
theorem g_HD_accumulator : GoodIn lw_g w_HD_accumulator := g_cons (g_in (List.mem_append_right _ (List.mem_append_right _ (List.mem_append_left _ (List.mem_of_getElem? (i := 184) rfl)))) rfl)
abbrev b_HD_place : ByteArray := prog_1_method_13_code
abbrev y_HD_place : MethodName := ⟨"HomeDirectory", "place", "(I)I"⟩
def w_HD_place : List Cond := .code y_HD_place b_HD_place 2 (some .int) :: lw_g
set_option maxRecDepth 20000 in
theorem g_HD_place : GoodIn lw_g w_HD_place := g_cons (g_in (List.mem_append_right _ (List.mem_append_right _ (List.mem_append_left _ (List.mem_of_getElem? (i := 188) rfl)))) rfl)
abbrev b_HD_sent : ByteArray := prog_1_method_14_code
abbrev y_HD_sent : MethodName := ⟨"HomeDirectory", "sent", "()I"⟩
def w_HD_sent : List Cond := .code y_HD_sent b_HD_sent 1 (some .int) :: lw_g
set_option maxRecDepth 20000 in
theorem g_HD_sent : GoodIn lw_g w_HD_sent := g_cons (g_in (List.mem_append_right _ (List.mem_append_right _ (List.mem_append_left _ (List.mem_of_getElem? (i := 192) rfl)))) rfl)
abbrev b_HD_performed : ByteArray := prog_1_method_15_code
abbrev y_HD_performed : MethodName := ⟨"HomeDirectory", "performed", "()I"⟩
def w_HD_performed : List Cond := .code y_HD_performed b_HD_performed 3 (some .int) :: lw_g
set_option maxRecDepth 20000 in
theorem g_HD_performed : GoodIn lw_g w_HD_performed := g_cons (g_in (List.mem_append_right _ (List.mem_append_right _ (List.mem_append_left _ (List.mem_of_getElem? (i := 196) rfl)))) rfl)
abbrev b_HD_isCore : ByteArray := prog_1_method_16_code
abbrev y_HD_isCore : MethodName := ⟨"HomeDirectory", "isCore", "(I)Z"⟩
def w_HD_isCore : List Cond := .code y_HD_isCore b_HD_isCore 2 (some .boolean) :: lw_g
set_option maxRecDepth 20000 in
theorem g_HD_isCore : GoodIn lw_g w_HD_isCore := g_cons (g_in (List.mem_append_right _ (List.mem_append_left _ (List.mem_of_getElem? (i := 187) rfl))) rfl)
abbrev b_HD_isBlock : ByteArray := prog_1_method_17_code
abbrev y_HD_isBlock : MethodName := ⟨"HomeDirectory", "isBlock", "(I)Z"⟩
def w_HD_isBlock : List Cond := .code y_HD_isBlock b_HD_isBlock 1 (some .boolean) :: lw_g
set_option maxRecDepth 20000 in
theorem g_HD_isBlock : GoodIn lw_g w_HD_isBlock := g_cons (g_in (List.mem_append_right _ (List.mem_append_left _ (List.mem_of_getElem? (i := 200) rfl))) rfl)
abbrev b_HD_isStalled : ByteArray := prog_1_method_18_code
abbrev y_HD_isStalled : MethodName := ⟨"HomeDirectory", "isStalled", "(LHomeDirectory$Message;)Z"⟩
def w_HD_isStalled : List Cond := .code y_HD_isStalled b_HD_isStalled 2 (some .boolean) :: lw_g
set_option maxRecDepth 20000 in
theorem g_HD_isStalled : GoodIn lw_g w_HD_isStalled := g_cons (g_in (List.mem_append_right _ (List.mem_append_right _ (List.mem_append_left _ (List.mem_of_getElem? (i := 48) rfl)))) rfl)
abbrev b_HD_handOver : ByteArray := prog_1_method_19_code
abbrev y_HD_handOver : MethodName := ⟨"HomeDirectory", "handOver", "(LHomeDirectory$Message;)V"⟩
def w_HD_handOver : List Cond := .code y_HD_handOver b_HD_handOver 2 none :: lw_g
set_option maxRecDepth 20000 in
theorem g_HD_handOver : GoodIn lw_g w_HD_handOver := g_cons (g_in (List.mem_append_right _ (List.mem_append_right _ (List.mem_append_left _ (List.mem_of_getElem? (i := 60) rfl)))) rfl)
abbrev b_Mod_init : ByteArray := prog_7_method_1_code
abbrev y_Mod_init : MethodName := ⟨"HomeDirectoryModel", "<init>", "(II)V"⟩
def w_Mod_init : List Cond := .code y_Mod_init b_Mod_init 4 none :: lw_g
set_option maxRecDepth 20000 in
theorem g_Mod_init : GoodIn lw_g w_Mod_init := g_cons (g_in (List.mem_append_right _ (List.mem_append_right _ (List.mem_append_left _ (List.mem_of_getElem? (i := 204) rfl)))) rfl)
abbrev b_Mod_isCore : ByteArray := prog_7_method_2_code
abbrev y_Mod_isCore : MethodName := ⟨"HomeDirectoryModel", "isCore", "(I)Z"⟩
def w_Mod_isCore : List Cond := .code y_Mod_isCore b_Mod_isCore 2 (some .boolean) :: lw_g
set_option maxRecDepth 20000 in
theorem g_Mod_isCore : GoodIn lw_g w_Mod_isCore := g_cons (g_in (List.mem_append_right _ (List.mem_append_right _ (List.mem_append_right _ (List.mem_of_getElem? (i := 56) rfl)))) rfl)
abbrev b_Mod_isBlock : ByteArray := prog_7_method_3_code
abbrev y_Mod_isBlock : MethodName := ⟨"HomeDirectoryModel", "isBlock", "(I)Z"⟩
def w_Mod_isBlock : List Cond := .code y_Mod_isBlock b_Mod_isBlock 1 (some .boolean) :: lw_g
set_option maxRecDepth 20000 in
theorem g_Mod_isBlock : GoodIn lw_g w_Mod_isBlock := g_cons (g_in (List.mem_append_right _ (List.mem_append_right _ (List.mem_append_right _ (List.mem_of_getElem? (i := 62) rfl)))) rfl)
abbrev b_Mod_access : ByteArray := prog_7_method_4_code
abbrev y_Mod_access : MethodName := ⟨"HomeDirectoryModel", "access", "(I)Z"⟩
def w_Mod_access : List Cond := .code y_Mod_access b_Mod_access 1 (some .boolean) :: lw_g
set_option maxRecDepth 20000 in
theorem g_Mod_access : GoodIn lw_g w_Mod_access := g_cons (g_in (List.mem_append_right _ (List.mem_append_right _ (List.mem_append_right _ (List.mem_of_getElem? (i := 59) rfl)))) rfl)
abbrev b_Mod_code : ByteArray := prog_7_method_5_code
abbrev y_Mod_code : MethodName := ⟨"HomeDirectoryModel", "code", "(III)Z"⟩
def w_Mod_code : List Cond := .code y_Mod_code b_Mod_code 4 (some .boolean) :: lw_g
set_option maxRecDepth 20000 in
theorem g_Mod_code : GoodIn lw_g w_Mod_code := g_cons (g_in (List.mem_append_right _ (List.mem_append_right _ (List.mem_append_right _ (List.mem_of_getElem? (i := 52) rfl)))) rfl)
abbrev b_Mod_go : ByteArray := prog_7_method_6_code
abbrev y_Mod_go : MethodName := ⟨"HomeDirectoryModel", "go", "(II)Z"⟩
def w_Mod_go : List Cond := .code y_Mod_go b_Mod_go 3 (some .boolean) :: lw_g
set_option maxRecDepth 20000 in
theorem g_Mod_go : GoodIn lw_g w_Mod_go := g_cons (g_in (List.mem_append_right _ (List.mem_append_right _ (List.mem_append_right _ (List.mem_of_getElem? (i := 66) rfl)))) rfl)
abbrev b_Mod_send : ByteArray := prog_7_method_7_code
abbrev y_Mod_send : MethodName := ⟨"HomeDirectoryModel", "send", "(IIIIIII)V"⟩
def w_Mod_send : List Cond := .code y_Mod_send b_Mod_send 8 none :: lw_g
set_option maxRecDepth 20000 in
theorem g_Mod_send : GoodIn lw_g w_Mod_send := g_cons (g_in (List.mem_append_right _ (List.mem_append_right _ (List.mem_append_right _ (List.mem_of_getElem? (i := 86) rfl)))) rfl)
abbrev b_Mod_data : ByteArray := prog_7_method_8_code
abbrev y_Mod_data : MethodName := ⟨"HomeDirectoryModel", "data", "(IIIII)V"⟩
def w_Mod_data : List Cond := .code y_Mod_data b_Mod_data 6 none :: lw_g
set_option maxRecDepth 20000 in
theorem g_Mod_data : GoodIn lw_g w_Mod_data := g_cons (g_in (List.mem_append_right _ (List.mem_append_right _ (List.mem_append_right _ (List.mem_of_getElem? (i := 122) rfl)))) rfl)
abbrev b_Mod_remove : ByteArray := prog_7_method_9_code
abbrev y_Mod_remove : MethodName := ⟨"HomeDirectoryModel", "remove", "(I)V"⟩
def w_Mod_remove : List Cond := .code y_Mod_remove b_Mod_remove 3 none :: lw_g
set_option maxRecDepth 20000 in
theorem g_Mod_remove : GoodIn lw_g w_Mod_remove := g_cons (g_in (List.mem_append_right _ (List.mem_append_right _ (List.mem_append_right _ (List.mem_of_getElem? (i := 110) rfl)))) rfl)
abbrev b_Mod_perform : ByteArray := prog_7_method_10_code
abbrev y_Mod_perform : MethodName := ⟨"HomeDirectoryModel", "perform", "(I)V"⟩
def w_Mod_perform : List Cond := .code y_Mod_perform b_Mod_perform 5 none :: lw_g
set_option maxRecDepth 20000 in
theorem g_Mod_perform : GoodIn lw_g w_Mod_perform := g_cons (g_in (List.mem_append_right _ (List.mem_append_right _ (List.mem_append_right _ (List.mem_of_getElem? (i := 78) rfl)))) rfl)
abbrev b_Mod_plain : ByteArray := prog_7_method_11_code
abbrev y_Mod_plain : MethodName := ⟨"HomeDirectoryModel", "plain", "(III)I"⟩
def w_Mod_plain : List Cond := .code y_Mod_plain b_Mod_plain 5 (some .int) :: lw_g
set_option maxRecDepth 20000 in
theorem g_Mod_plain : GoodIn lw_g w_Mod_plain := g_cons (g_in (List.mem_append_right _ (List.mem_append_right _ (List.mem_append_right _ (List.mem_of_getElem? (i := 74) rfl)))) rfl)
abbrev b_Mod_inUse : ByteArray := prog_7_method_12_code
abbrev y_Mod_inUse : MethodName := ⟨"HomeDirectoryModel", "inUse", "(I)I"⟩
def w_Mod_inUse : List Cond := .code y_Mod_inUse b_Mod_inUse 4 (some .int) :: lw_g
set_option maxRecDepth 20000 in
theorem g_Mod_inUse : GoodIn lw_g w_Mod_inUse := g_cons (g_in (List.mem_append_right _ (List.mem_append_right _ (List.mem_append_right _ (List.mem_of_getElem? (i := 90) rfl)))) rfl)
abbrev b_Mod_replace : ByteArray := prog_7_method_13_code
abbrev y_Mod_replace : MethodName := ⟨"HomeDirectoryModel", "replace", "(I)I"⟩
def w_Mod_replace : List Cond := .code y_Mod_replace b_Mod_replace 5 (some .int) :: lw_g
set_option maxRecDepth 20000 in
theorem g_Mod_replace : GoodIn lw_g w_Mod_replace := g_cons (g_in (List.mem_append_right _ (List.mem_append_right _ (List.mem_append_right _ (List.mem_of_getElem? (i := 94) rfl)))) rfl)
abbrev b_Mod_ask : ByteArray := prog_7_method_14_code
abbrev y_Mod_ask : MethodName := ⟨"HomeDirectoryModel", "ask", "(IIII)I"⟩
def w_Mod_ask : List Cond := .code y_Mod_ask b_Mod_ask 5 (some .int) :: lw_g
set_option maxRecDepth 20000 in
theorem g_Mod_ask : GoodIn lw_g w_Mod_ask := g_cons (g_in (List.mem_append_right _ (List.mem_append_right _ (List.mem_append_right _ (List.mem_of_getElem? (i := 82) rfl)))) rfl)
abbrev b_Mod_step : ByteArray := prog_7_method_15_code
abbrev y_Mod_step : MethodName := ⟨"HomeDirectoryModel", "step", "(I)I"⟩
def w_Mod_step : List Cond := .code y_Mod_step b_Mod_step 5 (some .int) :: lw_g
set_option maxRecDepth 20000 in
theorem g_Mod_step : GoodIn lw_g w_Mod_step := g_cons (g_in (List.mem_append_right _ (List.mem_append_right _ (List.mem_append_right _ (List.mem_of_getElem? (i := 70) rfl)))) rfl)
abbrev b_Mod_behind : ByteArray := prog_7_method_16_code
abbrev y_Mod_behind : MethodName := ⟨"HomeDirectoryModel", "behind", "(I)Z"⟩
def w_Mod_behind : List Cond := .code y_Mod_behind b_Mod_behind 3 (some .boolean) :: lw_g
set_option maxRecDepth 20000 in
theorem g_Mod_behind : GoodIn lw_g w_Mod_behind := g_cons (g_in (List.mem_append_right _ (List.mem_append_right _ (List.mem_append_right _ (List.mem_of_getElem? (i := 102) rfl)))) rfl)
abbrev b_Mod_stalls : ByteArray := prog_7_method_17_code
abbrev y_Mod_stalls : MethodName := ⟨"HomeDirectoryModel", "stalls", "(I)Z"⟩
def w_Mod_stalls : List Cond := .code y_Mod_stalls b_Mod_stalls 3 (some .boolean) :: lw_g
set_option maxRecDepth 20000 in
theorem g_Mod_stalls : GoodIn lw_g w_Mod_stalls := g_cons (g_in (List.mem_append_right _ (List.mem_append_right _ (List.mem_append_right _ (List.mem_of_getElem? (i := 106) rfl)))) rfl)
abbrev b_Mod_deliver : ByteArray := prog_7_method_18_code
abbrev y_Mod_deliver : MethodName := ⟨"HomeDirectoryModel", "deliver", "(I)I"⟩
def w_Mod_deliver : List Cond := .code y_Mod_deliver b_Mod_deliver 9 (some .int) :: lw_g
set_option maxRecDepth 20000 in
theorem g_Mod_deliver : GoodIn lw_g w_Mod_deliver := g_cons (g_in (List.mem_append_right _ (List.mem_append_right _ (List.mem_append_right _ (List.mem_of_getElem? (i := 98) rfl)))) rfl)
abbrev b_Mod_atCore : ByteArray := prog_7_method_19_code
abbrev y_Mod_atCore : MethodName := ⟨"HomeDirectoryModel", "atCore", "(IIIIII)V"⟩
def w_Mod_atCore : List Cond := .code y_Mod_atCore b_Mod_atCore 10 none :: lw_g
set_option maxRecDepth 20000 in
theorem g_Mod_atCore : GoodIn lw_g w_Mod_atCore := g_cons (g_in (List.mem_append_right _ (List.mem_append_right _ (List.mem_append_right _ (List.mem_of_getElem? (i := 134) rfl)))) rfl)
abbrev b_Mod_finish : ByteArray := prog_7_method_20_code
abbrev y_Mod_finish : MethodName := ⟨"HomeDirectoryModel", "finish", "(II)V"⟩
def w_Mod_finish : List Cond := .code y_Mod_finish b_Mod_finish 5 none :: lw_g
set_option maxRecDepth 20000 in
theorem g_Mod_finish : GoodIn lw_g w_Mod_finish := g_cons (g_in (List.mem_append_right _ (List.mem_append_right _ (List.mem_append_right _ (List.mem_of_getElem? (i := 138) rfl)))) rfl)
abbrev b_Mod_sharers : ByteArray := prog_7_method_21_code
abbrev y_Mod_sharers : MethodName := ⟨"HomeDirectoryModel", "sharers", "(II)I"⟩
def w_Mod_sharers : List Cond := .code y_Mod_sharers b_Mod_sharers 5 (some .int) :: lw_g
set_option maxRecDepth 20000 in
theorem g_Mod_sharers : GoodIn lw_g w_Mod_sharers := g_cons (g_in (List.mem_append_right _ (List.mem_append_right _ (List.mem_append_right _ (List.mem_of_getElem? (i := 130) rfl)))) rfl)
abbrev b_Mod_atHome : ByteArray := prog_7_method_22_code
abbrev y_Mod_atHome : MethodName := ⟨"HomeDirectoryModel", "atHome", "(IIII)V"⟩
def w_Mod_atHome : List Cond := .code y_Mod_atHome b_Mod_atHome 6 none :: lw_g
set_option maxRecDepth 20000 in
theorem g_Mod_atHome : GoodIn lw_g w_Mod_atHome := g_cons (g_in (List.mem_append_right _ (List.mem_append_right _ (List.mem_append_right _ (List.mem_of_getElem? (i := 114) rfl)))) rfl)
abbrev b_Mod_gets : ByteArray := prog_7_method_23_code
abbrev y_Mod_gets : MethodName := ⟨"HomeDirectoryModel", "gets", "(II)V"⟩
def w_Mod_gets : List Cond := .code y_Mod_gets b_Mod_gets 3 none :: lw_g
set_option maxRecDepth 20000 in
theorem g_Mod_gets : GoodIn lw_g w_Mod_gets := g_cons (g_in (List.mem_append_right _ (List.mem_append_right _ (List.mem_append_right _ (List.mem_of_getElem? (i := 118) rfl)))) rfl)
abbrev b_Mod_getm : ByteArray := prog_7_method_24_code
abbrev y_Mod_getm : MethodName := ⟨"HomeDirectoryModel", "getm", "(II)V"⟩
def w_Mod_getm : List Cond := .code y_Mod_getm b_Mod_getm 4 none :: lw_g
set_option maxRecDepth 20000 in
theorem g_Mod_getm : GoodIn lw_g w_Mod_getm := g_cons (g_in (List.mem_append_right _ (List.mem_append_right _ (List.mem_append_right _ (List.mem_of_getElem? (i := 126) rfl)))) rfl)
abbrev b_Mod_messages : ByteArray := prog_7_method_25_code
abbrev y_Mod_messages : MethodName := ⟨"HomeDirectoryModel", "messages", "()I"⟩
def w_Mod_messages : List Cond := .code y_Mod_messages b_Mod_messages 1 (some .int) :: lw_g
set_option maxRecDepth 20000 in
theorem g_Mod_messages : GoodIn lw_g w_Mod_messages := g_cons (g_in (List.mem_append_right _ (List.mem_append_right _ (List.mem_append_right _ (List.mem_of_getElem? (i := 142) rfl)))) rfl)
abbrev b_Mod_message : ByteArray := prog_7_method_26_code
abbrev y_Mod_message : MethodName := ⟨"HomeDirectoryModel", "message", "(II)I"⟩
def w_Mod_message : List Cond := .code y_Mod_message b_Mod_message 4 (some .int) :: lw_g
set_option maxRecDepth 20000 in
theorem g_Mod_message : GoodIn lw_g w_Mod_message := g_cons (g_in (List.mem_append_right _ (List.mem_append_right _ (List.mem_append_right _ (List.mem_of_getElem? (i := 146) rfl)))) rfl)
abbrev b_Mod_line : ByteArray := prog_7_method_27_code
abbrev y_Mod_line : MethodName := ⟨"HomeDirectoryModel", "line", "(II)I"⟩
def w_Mod_line : List Cond := .code y_Mod_line b_Mod_line 3 (some .int) :: lw_g
set_option maxRecDepth 20000 in
theorem g_Mod_line : GoodIn lw_g w_Mod_line := g_cons (g_in (List.mem_append_right _ (List.mem_append_right _ (List.mem_append_right _ (List.mem_of_getElem? (i := 150) rfl)))) rfl)
abbrev b_Mod_word : ByteArray := prog_7_method_28_code
abbrev y_Mod_word : MethodName := ⟨"HomeDirectoryModel", "word", "(II)I"⟩
def w_Mod_word : List Cond := .code y_Mod_word b_Mod_word 5 (some .int) :: lw_g
set_option maxRecDepth 20000 in
theorem g_Mod_word : GoodIn lw_g w_Mod_word := g_cons (g_in (List.mem_append_right _ (List.mem_append_right _ (List.mem_append_right _ (List.mem_of_getElem? (i := 154) rfl)))) rfl)
abbrev b_Mod_home : ByteArray := prog_7_method_29_code
abbrev y_Mod_home : MethodName := ⟨"HomeDirectoryModel", "home", "(I)I"⟩
def w_Mod_home : List Cond := .code y_Mod_home b_Mod_home 4 (some .int) :: lw_g
set_option maxRecDepth 20000 in
theorem g_Mod_home : GoodIn lw_g w_Mod_home := g_cons (g_in (List.mem_append_right _ (List.mem_append_right _ (List.mem_append_right _ (List.mem_of_getElem? (i := 158) rfl)))) rfl)
abbrev b_Mod_memory : ByteArray := prog_7_method_30_code
abbrev y_Mod_memory : MethodName := ⟨"HomeDirectoryModel", "memory", "(I)I"⟩
def w_Mod_memory : List Cond := .code y_Mod_memory b_Mod_memory 2 (some .int) :: lw_g
set_option maxRecDepth 20000 in
theorem g_Mod_memory : GoodIn lw_g w_Mod_memory := g_cons (g_in (List.mem_append_right _ (List.mem_append_right _ (List.mem_append_right _ (List.mem_of_getElem? (i := 162) rfl)))) rfl)
abbrev b_Mod_accumulator : ByteArray := prog_7_method_31_code
abbrev y_Mod_accumulator : MethodName := ⟨"HomeDirectoryModel", "accumulator", "(I)I"⟩
def w_Mod_accumulator : List Cond := .code y_Mod_accumulator b_Mod_accumulator 2 (some .int) :: lw_g
set_option maxRecDepth 20000 in
theorem g_Mod_accumulator : GoodIn lw_g w_Mod_accumulator := g_cons (g_in (List.mem_append_right _ (List.mem_append_right _ (List.mem_append_right _ (List.mem_of_getElem? (i := 166) rfl)))) rfl)
abbrev b_Mod_place : ByteArray := prog_7_method_32_code
abbrev y_Mod_place : MethodName := ⟨"HomeDirectoryModel", "place", "(I)I"⟩
def w_Mod_place : List Cond := .code y_Mod_place b_Mod_place 2 (some .int) :: lw_g
set_option maxRecDepth 20000 in
theorem g_Mod_place : GoodIn lw_g w_Mod_place := g_cons (g_in (List.mem_append_right _ (List.mem_append_right _ (List.mem_append_right _ (List.mem_of_getElem? (i := 170) rfl)))) rfl)
abbrev b_Mod_sent : ByteArray := prog_7_method_33_code
abbrev y_Mod_sent : MethodName := ⟨"HomeDirectoryModel", "sent", "()I"⟩
def w_Mod_sent : List Cond := .code y_Mod_sent b_Mod_sent 1 (some .int) :: lw_g
set_option maxRecDepth 20000 in
theorem g_Mod_sent : GoodIn lw_g w_Mod_sent := g_cons (g_in (List.mem_append_right _ (List.mem_append_right _ (List.mem_append_right _ (List.mem_of_getElem? (i := 174) rfl)))) rfl)
abbrev b_Mod_performed : ByteArray := prog_7_method_34_code
abbrev y_Mod_performed : MethodName := ⟨"HomeDirectoryModel", "performed", "()I"⟩
def w_Mod_performed : List Cond := .code y_Mod_performed b_Mod_performed 1 (some .int) :: lw_g
set_option maxRecDepth 20000 in
theorem g_Mod_performed : GoodIn lw_g w_Mod_performed := g_cons (g_in (List.mem_append_right _ (List.mem_append_right _ (List.mem_append_right _ (List.mem_of_getElem? (i := 178) rfl)))) rfl)
abbrev b_Core_init : ByteArray := prog_2_method_1_code
abbrev y_Core_init : MethodName := ⟨"HomeDirectory$Core", "<init>", "(IILHomeDirectory$Network;)V"⟩
def w_Core_init : List Cond := .code y_Core_init b_Core_init 4 none :: lw_g
set_option maxRecDepth 20000 in
theorem g_Core_init : GoodIn lw_g w_Core_init := g_cons (g_in (List.mem_append_right _ (List.mem_append_left _ (List.mem_of_getElem? (i := 120) rfl))) rfl)
abbrev b_Core_append : ByteArray := prog_2_method_2_code
abbrev y_Core_append : MethodName := ⟨"HomeDirectory$Core", "append", "(II)Z"⟩
def w_Core_append : List Cond := .code y_Core_append b_Core_append 3 (some .boolean) :: lw_g
set_option maxRecDepth 20000 in
theorem g_Core_append : GoodIn lw_g w_Core_append := g_cons (g_in (List.mem_append_right _ (List.mem_append_left _ (List.mem_of_getElem? (i := 191) rfl))) rfl)
abbrev b_Core_fits : ByteArray := prog_2_method_3_code
abbrev y_Core_fits : MethodName := ⟨"HomeDirectory$Core", "fits", "(II)Z"⟩
def w_Core_fits : List Cond := .code y_Core_fits b_Core_fits 2 (some .boolean) :: lw_g
set_option maxRecDepth 20000 in
theorem g_Core_fits : GoodIn lw_g w_Core_fits := g_cons (g_in (List.mem_append_right _ (List.mem_append_left _ (List.mem_of_getElem? (i := 194) rfl))) rfl)
abbrev b_Core_isAccess : ByteArray := prog_2_method_4_code
abbrev y_Core_isAccess : MethodName := ⟨"HomeDirectory$Core", "isAccess", "(I)Z"⟩
def w_Core_isAccess : List Cond := .code y_Core_isAccess b_Core_isAccess 1 (some .boolean) :: lw_g
set_option maxRecDepth 20000 in
theorem g_Core_isAccess : GoodIn lw_g w_Core_isAccess := g_cons (g_in (List.mem_append_right _ (List.mem_append_left _ (List.mem_of_getElem? (i := 197) rfl))) rfl)
abbrev b_Core_moveTo : ByteArray := prog_2_method_5_code
abbrev y_Core_moveTo : MethodName := ⟨"HomeDirectory$Core", "moveTo", "(I)Z"⟩
def w_Core_moveTo : List Cond := .code y_Core_moveTo b_Core_moveTo 2 (some .boolean) :: lw_g
set_option maxRecDepth 20000 in
theorem g_Core_moveTo : GoodIn lw_g w_Core_moveTo := g_cons (g_in (List.mem_append_right _ (List.mem_append_left _ (List.mem_of_getElem? (i := 208) rfl))) rfl)
abbrev b_Core_advance : ByteArray := prog_2_method_6_code
abbrev y_Core_advance : MethodName := ⟨"HomeDirectory$Core", "advance", "()I"⟩
def w_Core_advance : List Cond := .code y_Core_advance b_Core_advance 1 (some .int) :: lw_g
set_option maxRecDepth 20000 in
theorem g_Core_advance : GoodIn lw_g w_Core_advance := g_cons (g_in (List.mem_append_right _ (List.mem_append_left _ (List.mem_of_getElem? (i := 216) rfl))) rfl)
abbrev b_Core_compute : ByteArray := prog_2_method_7_code
abbrev y_Core_compute : MethodName := ⟨"HomeDirectory$Core", "compute", "(II)V"⟩
def w_Core_compute : List Cond := .code y_Core_compute b_Core_compute 3 none :: lw_g
set_option maxRecDepth 20000 in
theorem g_Core_compute : GoodIn lw_g w_Core_compute := g_cons (g_in (List.mem_append_right _ (List.mem_append_right _ (List.mem_append_left _ (List.mem_of_getElem? (i := 20) rfl)))) rfl)
abbrev b_Core_access : ByteArray := prog_2_method_8_code
abbrev y_Core_access : MethodName := ⟨"HomeDirectory$Core", "access", "(II)I"⟩
def w_Core_access : List Cond := .code y_Core_access b_Core_access 3 (some .int) :: lw_g
set_option maxRecDepth 20000 in
theorem g_Core_access : GoodIn lw_g w_Core_access := g_cons (g_in (List.mem_append_right _ (List.mem_append_left _ (List.mem_of_getElem? (i := 220) rfl))) rfl)
abbrev b_Core_allows : ByteArray := prog_2_method_9_code
abbrev y_Core_allows : MethodName := ⟨"HomeDirectory$Core", "allows", "(II)Z"⟩
def w_Core_allows : List Cond := .code y_Core_allows b_Core_allows 3 (some .boolean) :: lw_g
set_option maxRecDepth 20000 in
theorem g_Core_allows : GoodIn lw_g w_Core_allows := g_cons (g_in (List.mem_append_right _ (List.mem_append_left _ (List.mem_of_getElem? (i := 224) rfl))) rfl)
abbrev b_Core_perform : ByteArray := prog_2_method_10_code
abbrev y_Core_perform : MethodName := ⟨"HomeDirectory$Core", "perform", "(II)V"⟩
def w_Core_perform : List Cond := .code y_Core_perform b_Core_perform 4 none :: lw_g
set_option maxRecDepth 20000 in
theorem g_Core_perform : GoodIn lw_g w_Core_perform := g_cons (g_in (List.mem_append_right _ (List.mem_append_left _ (List.mem_of_getElem? (i := 228) rfl))) rfl)
abbrev b_Core_linesInUse : ByteArray := prog_2_method_11_code
abbrev y_Core_linesInUse : MethodName := ⟨"HomeDirectory$Core", "linesInUse", "()I"⟩
def w_Core_linesInUse : List Cond := .code y_Core_linesInUse b_Core_linesInUse 3 (some .int) :: lw_g
set_option maxRecDepth 20000 in
theorem g_Core_linesInUse : GoodIn lw_g w_Core_linesInUse := g_cons (g_in (List.mem_append_right _ (List.mem_append_left _ (List.mem_of_getElem? (i := 232) rfl))) rfl)
abbrev b_Core_leastLatelyUsed : ByteArray := prog_2_method_12_code
abbrev y_Core_leastLatelyUsed : MethodName := ⟨"HomeDirectory$Core", "leastLatelyUsed", "()I"⟩
def w_Core_leastLatelyUsed : List Cond := .code y_Core_leastLatelyUsed b_Core_leastLatelyUsed 3 (some .int) :: lw_g
set_option maxRecDepth 20000 in
theorem g_Core_leastLatelyUsed : GoodIn lw_g w_Core_leastLatelyUsed := g_cons (g_in (List.mem_append_right _ (List.mem_append_left _ (List.mem_of_getElem? (i := 236) rfl))) rfl)
abbrev b_Core_replace : ByteArray := prog_2_method_13_code
abbrev y_Core_replace : MethodName := ⟨"HomeDirectory$Core", "replace", "(I)V"⟩
def w_Core_replace : List Cond := .code y_Core_replace b_Core_replace 2 none :: lw_g
set_option maxRecDepth 20000 in
theorem g_Core_replace : GoodIn lw_g w_Core_replace := g_cons (g_in (List.mem_append_right _ (List.mem_append_right _ (List.mem_append_left _ (List.mem_of_getElem? (i := 0) rfl)))) rfl)
abbrev b_Core_request : ByteArray := prog_2_method_14_code
abbrev y_Core_request : MethodName := ⟨"HomeDirectory$Core", "request", "(II)V"⟩
def w_Core_request : List Cond := .code y_Core_request b_Core_request 3 none :: lw_g
set_option maxRecDepth 20000 in
theorem g_Core_request : GoodIn lw_g w_Core_request := g_cons (g_in (List.mem_append_right _ (List.mem_append_right _ (List.mem_append_left _ (List.mem_of_getElem? (i := 16) rfl)))) rfl)
abbrev b_Core_meaningOf : ByteArray := prog_2_method_15_code
abbrev y_Core_meaningOf : MethodName := ⟨"HomeDirectory$Core", "meaningOf", "(I)I"⟩
def w_Core_meaningOf : List Cond := .code y_Core_meaningOf b_Core_meaningOf 2 (some .int) :: lw_g
set_option maxRecDepth 20000 in
theorem g_Core_meaningOf : GoodIn lw_g w_Core_meaningOf := g_cons (g_in (List.mem_append_right _ (List.mem_append_right _ (List.mem_append_left _ (List.mem_of_getElem? (i := 168) rfl)))) rfl)
abbrev b_Core_stalls : ByteArray := prog_2_method_16_code
abbrev y_Core_stalls : MethodName := ⟨"HomeDirectory$Core", "stalls", "(LHomeDirectory$Message;)Z"⟩
def w_Core_stalls : List Cond := .code y_Core_stalls b_Core_stalls 4 (some .boolean) :: lw_g
set_option maxRecDepth 20000 in
theorem g_Core_stalls : GoodIn lw_g w_Core_stalls := g_cons (g_in (List.mem_append_right _ (List.mem_append_right _ (List.mem_append_left _ (List.mem_of_getElem? (i := 56) rfl)))) rfl)
abbrev b_Core_receive : ByteArray := prog_2_method_17_code
abbrev y_Core_receive : MethodName := ⟨"HomeDirectory$Core", "receive", "(LHomeDirectory$Message;)V"⟩
def w_Core_receive : List Cond := .code y_Core_receive b_Core_receive 2 none :: lw_g
set_option maxRecDepth 20000 in
theorem g_Core_receive : GoodIn lw_g w_Core_receive := g_cons (g_in (List.mem_append_right _ (List.mem_append_right _ (List.mem_append_left _ (List.mem_of_getElem? (i := 110) rfl)))) rfl)
abbrev b_Core_takeData : ByteArray := prog_2_method_18_code
abbrev y_Core_takeData : MethodName := ⟨"HomeDirectory$Core", "takeData", "(LHomeDirectory$Message;)V"⟩
def w_Core_takeData : List Cond := .code y_Core_takeData b_Core_takeData 4 none :: lw_g
set_option maxRecDepth 20000 in
theorem g_Core_takeData : GoodIn lw_g w_Core_takeData := g_cons (g_in (List.mem_append_right _ (List.mem_append_right _ (List.mem_append_left _ (List.mem_of_getElem? (i := 114) rfl)))) rfl)
abbrev b_Core_takeAck : ByteArray := prog_2_method_19_code
abbrev y_Core_takeAck : MethodName := ⟨"HomeDirectory$Core", "takeAck", "(I)V"⟩
def w_Core_takeAck : List Cond := .code y_Core_takeAck b_Core_takeAck 3 none :: lw_g
set_option maxRecDepth 20000 in
theorem g_Core_takeAck : GoodIn lw_g w_Core_takeAck := g_cons (g_in (List.mem_append_right _ (List.mem_append_right _ (List.mem_append_left _ (List.mem_of_getElem? (i := 118) rfl)))) rfl)
abbrev b_Core_giveUp : ByteArray := prog_2_method_20_code
abbrev y_Core_giveUp : MethodName := ⟨"HomeDirectory$Core", "giveUp", "(LHomeDirectory$Message;)V"⟩
def w_Core_giveUp : List Cond := .code y_Core_giveUp b_Core_giveUp 3 none :: lw_g
set_option maxRecDepth 20000 in
theorem g_Core_giveUp : GoodIn lw_g w_Core_giveUp := g_cons (g_in (List.mem_append_right _ (List.mem_append_right _ (List.mem_append_left _ (List.mem_of_getElem? (i := 122) rfl)))) rfl)
abbrev b_Core_share : ByteArray := prog_2_method_21_code
abbrev y_Core_share : MethodName := ⟨"HomeDirectory$Core", "share", "(LHomeDirectory$Message;)V"⟩
def w_Core_share : List Cond := .code y_Core_share b_Core_share 3 none :: lw_g
set_option maxRecDepth 20000 in
theorem g_Core_share : GoodIn lw_g w_Core_share := g_cons (g_in (List.mem_append_right _ (List.mem_append_right _ (List.mem_append_left _ (List.mem_of_getElem? (i := 126) rfl)))) rfl)
abbrev b_Core_handOn : ByteArray := prog_2_method_22_code
abbrev y_Core_handOn : MethodName := ⟨"HomeDirectory$Core", "handOn", "(LHomeDirectory$Message;)V"⟩
def w_Core_handOn : List Cond := .code y_Core_handOn b_Core_handOn 3 none :: lw_g
set_option maxRecDepth 20000 in
theorem g_Core_handOn : GoodIn lw_g w_Core_handOn := g_cons (g_in (List.mem_append_right _ (List.mem_append_right _ (List.mem_append_left _ (List.mem_of_getElem? (i := 131) rfl)))) rfl)
abbrev b_Core_endReplacement : ByteArray := prog_2_method_23_code
abbrev y_Core_endReplacement : MethodName := ⟨"HomeDirectory$Core", "endReplacement", "(I)V"⟩
def w_Core_endReplacement : List Cond := .code y_Core_endReplacement b_Core_endReplacement 2 none :: lw_g
set_option maxRecDepth 20000 in
theorem g_Core_endReplacement : GoodIn lw_g w_Core_endReplacement := g_cons (g_in (List.mem_append_right _ (List.mem_append_right _ (List.mem_append_left _ (List.mem_of_getElem? (i := 135) rfl)))) rfl)
abbrev b_Core_performIfAllowed : ByteArray := prog_2_method_24_code
abbrev y_Core_performIfAllowed : MethodName := ⟨"HomeDirectory$Core", "performIfAllowed", "(I)V"⟩
def w_Core_performIfAllowed : List Cond := .code y_Core_performIfAllowed b_Core_performIfAllowed 3 none :: lw_g
set_option maxRecDepth 20000 in
theorem g_Core_performIfAllowed : GoodIn lw_g w_Core_performIfAllowed := g_cons (g_in (List.mem_append_right _ (List.mem_append_right _ (List.mem_append_left _ (List.mem_of_getElem? (i := 139) rfl)))) rfl)
abbrev b_Home_init : ByteArray := prog_3_method_1_code
abbrev y_Home_init : MethodName := ⟨"HomeDirectory$Home", "<init>", "(LHomeDirectory$Network;)V"⟩
def w_Home_init : List Cond := .code y_Home_init b_Home_init 2 none :: lw_g
set_option maxRecDepth 20000 in
theorem g_Home_init : GoodIn lw_g w_Home_init := g_cons (g_in (List.mem_append_right _ (List.mem_append_left _ (List.mem_of_getElem? (i := 92) rfl))) rfl)
abbrev b_Home_summary : ByteArray := prog_3_method_2_code
abbrev y_Home_summary : MethodName := ⟨"HomeDirectory$Home", "summary", "(I)I"⟩
def w_Home_summary : List Cond := .code y_Home_summary b_Home_summary 3 (some .int) :: lw_g
set_option maxRecDepth 20000 in
theorem g_Home_summary : GoodIn lw_g w_Home_summary := g_cons (g_in (List.mem_append_right _ (List.mem_append_right _ (List.mem_append_left _ (List.mem_of_getElem? (i := 176) rfl)))) rfl)
abbrev b_Home_stalls : ByteArray := prog_3_method_3_code
abbrev y_Home_stalls : MethodName := ⟨"HomeDirectory$Home", "stalls", "(LHomeDirectory$Message;)Z"⟩
def w_Home_stalls : List Cond := .code y_Home_stalls b_Home_stalls 2 (some .boolean) :: lw_g
set_option maxRecDepth 20000 in
theorem g_Home_stalls : GoodIn lw_g w_Home_stalls := g_cons (g_in (List.mem_append_right _ (List.mem_append_right _ (List.mem_append_left _ (List.mem_of_getElem? (i := 52) rfl)))) rfl)
abbrev b_Home_receive : ByteArray := prog_3_method_4_code
abbrev y_Home_receive : MethodName := ⟨"HomeDirectory$Home", "receive", "(LHomeDirectory$Message;)V"⟩
def w_Home_receive : List Cond := .code y_Home_receive b_Home_receive 3 none :: lw_g
set_option maxRecDepth 20000 in
theorem g_Home_receive : GoodIn lw_g w_Home_receive := g_cons (g_in (List.mem_append_right _ (List.mem_append_right _ (List.mem_append_left _ (List.mem_of_getElem? (i := 64) rfl)))) rfl)
abbrev b_Home_giveToRead : ByteArray := prog_3_method_5_code
abbrev y_Home_giveToRead : MethodName := ⟨"HomeDirectory$Home", "giveToRead", "(II)V"⟩
def w_Home_giveToRead : List Cond := .code y_Home_giveToRead b_Home_giveToRead 3 none :: lw_g
set_option maxRecDepth 20000 in
theorem g_Home_giveToRead : GoodIn lw_g w_Home_giveToRead := g_cons (g_in (List.mem_append_right _ (List.mem_append_right _ (List.mem_append_left _ (List.mem_of_getElem? (i := 68) rfl)))) rfl)
abbrev b_Home_giveToWrite : ByteArray := prog_3_method_6_code
abbrev y_Home_giveToWrite : MethodName := ⟨"HomeDirectory$Home", "giveToWrite", "(II)V"⟩
def w_Home_giveToWrite : List Cond := .code y_Home_giveToWrite b_Home_giveToWrite 4 none :: lw_g
set_option maxRecDepth 20000 in
theorem g_Home_giveToWrite : GoodIn lw_g w_Home_giveToWrite := g_cons (g_in (List.mem_append_right _ (List.mem_append_right _ (List.mem_append_left _ (List.mem_of_getElem? (i := 83) rfl)))) rfl)
abbrev b_Home_invalidate : ByteArray := prog_3_method_7_code
abbrev y_Home_invalidate : MethodName := ⟨"HomeDirectory$Home", "invalidate", "(III)V"⟩
def w_Home_invalidate : List Cond := .code y_Home_invalidate b_Home_invalidate 5 none :: lw_g
set_option maxRecDepth 20000 in
theorem g_Home_invalidate : GoodIn lw_g w_Home_invalidate := g_cons (g_in (List.mem_append_right _ (List.mem_append_right _ (List.mem_append_left _ (List.mem_of_getElem? (i := 93) rfl)))) rfl)
abbrev b_Home_takeBack : ByteArray := prog_3_method_8_code
abbrev y_Home_takeBack : MethodName := ⟨"HomeDirectory$Home", "takeBack", "(II)V"⟩
def w_Home_takeBack : List Cond := .code y_Home_takeBack b_Home_takeBack 3 none :: lw_g
set_option maxRecDepth 20000 in
theorem g_Home_takeBack : GoodIn lw_g w_Home_takeBack := g_cons (g_in (List.mem_append_right _ (List.mem_append_right _ (List.mem_append_left _ (List.mem_of_getElem? (i := 97) rfl)))) rfl)
abbrev b_Home_takeBackWord : ByteArray := prog_3_method_9_code
abbrev y_Home_takeBackWord : MethodName := ⟨"HomeDirectory$Home", "takeBackWord", "(III)V"⟩
def w_Home_takeBackWord : List Cond := .code y_Home_takeBackWord b_Home_takeBackWord 4 none :: lw_g
set_option maxRecDepth 20000 in
theorem g_Home_takeBackWord : GoodIn lw_g w_Home_takeBackWord := g_cons (g_in (List.mem_append_right _ (List.mem_append_right _ (List.mem_append_left _ (List.mem_of_getElem? (i := 102) rfl)))) rfl)
abbrev b_Home_endSharing : ByteArray := prog_3_method_10_code
abbrev y_Home_endSharing : MethodName := ⟨"HomeDirectory$Home", "endSharing", "(II)V"⟩
def w_Home_endSharing : List Cond := .code y_Home_endSharing b_Home_endSharing 3 none :: lw_g
set_option maxRecDepth 20000 in
theorem g_Home_endSharing : GoodIn lw_g w_Home_endSharing := g_cons (g_in (List.mem_append_right _ (List.mem_append_right _ (List.mem_append_left _ (List.mem_of_getElem? (i := 106) rfl)))) rfl)
abbrev b_Home_bit : ByteArray := prog_3_method_11_code
abbrev y_Home_bit : MethodName := ⟨"HomeDirectory$Home", "bit", "(I)I"⟩
def w_Home_bit : List Cond := .code y_Home_bit b_Home_bit 1 (some .int) :: lw_g
set_option maxRecDepth 20000 in
theorem g_Home_bit : GoodIn lw_g w_Home_bit := g_cons (g_in (List.mem_append_right _ (List.mem_append_right _ (List.mem_append_left _ (List.mem_of_getElem? (i := 75) rfl)))) rfl)
abbrev b_Msg_init : ByteArray := prog_4_method_1_code
abbrev y_Msg_init : MethodName := ⟨"HomeDirectory$Message", "<init>", "()V"⟩
def w_Msg_init : List Cond := .code y_Msg_init b_Msg_init 1 none :: lw_g
set_option maxRecDepth 20000 in
theorem g_Msg_init : GoodIn lw_g w_Msg_init := g_cons (g_in (List.mem_append_right _ (List.mem_append_left _ (List.mem_of_getElem? (i := 35) rfl))) rfl)
abbrev b_Msg_isForward : ByteArray := prog_4_method_2_code
abbrev y_Msg_isForward : MethodName := ⟨"HomeDirectory$Message", "isForward", "()Z"⟩
def w_Msg_isForward : List Cond := .code y_Msg_isForward b_Msg_isForward 1 (some .boolean) :: lw_g
set_option maxRecDepth 20000 in
theorem g_Msg_isForward : GoodIn lw_g w_Msg_isForward := g_cons (g_in (List.mem_append_right _ (List.mem_append_right _ (List.mem_append_left _ (List.mem_of_getElem? (i := 36) rfl)))) rfl)
abbrev b_Msg_hasWayOf : ByteArray := prog_4_method_3_code
abbrev y_Msg_hasWayOf : MethodName := ⟨"HomeDirectory$Message", "hasWayOf", "(LHomeDirectory$Message;)Z"⟩
def w_Msg_hasWayOf : List Cond := .code y_Msg_hasWayOf b_Msg_hasWayOf 2 (some .boolean) :: lw_g
set_option maxRecDepth 20000 in
theorem g_Msg_hasWayOf : GoodIn lw_g w_Msg_hasWayOf := g_cons (g_in (List.mem_append_right _ (List.mem_append_right _ (List.mem_append_left _ (List.mem_of_getElem? (i := 40) rfl)))) rfl)
abbrev b_Msg_part : ByteArray := prog_4_method_4_code
abbrev y_Msg_part : MethodName := ⟨"HomeDirectory$Message", "part", "(I)I"⟩
def w_Msg_part : List Cond := .code y_Msg_part b_Msg_part 2 (some .int) :: lw_g
set_option maxRecDepth 20000 in
theorem g_Msg_part : GoodIn lw_g w_Msg_part := g_cons (g_in (List.mem_append_right _ (List.mem_append_right _ (List.mem_append_left _ (List.mem_of_getElem? (i := 155) rfl)))) rfl)
abbrev b_Net_init : ByteArray := prog_5_method_1_code
abbrev y_Net_init : MethodName := ⟨"HomeDirectory$Network", "<init>", "()V"⟩
def w_Net_init : List Cond := .code y_Net_init b_Net_init 2 none :: lw_g
set_option maxRecDepth 20000 in
theorem g_Net_init : GoodIn lw_g w_Net_init := g_cons (g_in (List.mem_append_right _ (List.mem_append_left _ (List.mem_of_getElem? (i := 28) rfl))) rfl)
abbrev b_Net_has : ByteArray := prog_5_method_2_code
abbrev y_Net_has : MethodName := ⟨"HomeDirectory$Network", "has", "(I)Z"⟩
def w_Net_has : List Cond := .code y_Net_has b_Net_has 2 (some .boolean) :: lw_g
set_option maxRecDepth 20000 in
theorem g_Net_has : GoodIn lw_g w_Net_has := g_cons (g_in (List.mem_append_right _ (List.mem_append_right _ (List.mem_append_left _ (List.mem_of_getElem? (i := 28) rfl)))) rfl)
abbrev b_Net_at : ByteArray := prog_5_method_3_code
abbrev y_Net_at : MethodName := ⟨"HomeDirectory$Network", "at", "(I)LHomeDirectory$Message;"⟩
def w_Net_at : List Cond := .code y_Net_at b_Net_at 2 (some (.object "HomeDirectory$Message")) :: lw_g
set_option maxRecDepth 20000 in
theorem g_Net_at : GoodIn lw_g w_Net_at := g_cons (g_in (List.mem_append_right _ (List.mem_append_right _ (List.mem_append_left _ (List.mem_of_getElem? (i := 44) rfl)))) rfl)
abbrev b_Net_isBehind : ByteArray := prog_5_method_4_code
abbrev y_Net_isBehind : MethodName := ⟨"HomeDirectory$Network", "isBehind", "(I)Z"⟩
def w_Net_isBehind : List Cond := .code y_Net_isBehind b_Net_isBehind 4 (some .boolean) :: lw_g
set_option maxRecDepth 20000 in
theorem g_Net_isBehind : GoodIn lw_g w_Net_isBehind := g_cons (g_in (List.mem_append_right _ (List.mem_append_right _ (List.mem_append_left _ (List.mem_of_getElem? (i := 32) rfl)))) rfl)
abbrev b_Net_takeOut : ByteArray := prog_5_method_5_code
abbrev y_Net_takeOut : MethodName := ⟨"HomeDirectory$Network", "takeOut", "(I)V"⟩
def w_Net_takeOut : List Cond := .code y_Net_takeOut b_Net_takeOut 4 none :: lw_g
set_option maxRecDepth 20000 in
theorem g_Net_takeOut : GoodIn lw_g w_Net_takeOut := g_cons (g_in (List.mem_append_right _ (List.mem_append_right _ (List.mem_append_left _ (List.mem_of_getElem? (i := 143) rfl)))) rfl)
abbrev b_Net_sendPlain : ByteArray := prog_5_method_6_code
abbrev y_Net_sendPlain : MethodName := ⟨"HomeDirectory$Network", "sendPlain", "(IIII)V"⟩
def w_Net_sendPlain : List Cond := .code y_Net_sendPlain b_Net_sendPlain 5 none :: lw_g
set_option maxRecDepth 20000 in
theorem g_Net_sendPlain : GoodIn lw_g w_Net_sendPlain := g_cons (g_in (List.mem_append_right _ (List.mem_append_right _ (List.mem_append_left _ (List.mem_of_getElem? (i := 12) rfl)))) rfl)
abbrev b_Net_sendFor : ByteArray := prog_5_method_7_code
abbrev y_Net_sendFor : MethodName := ⟨"HomeDirectory$Network", "sendFor", "(IIII)V"⟩
def w_Net_sendFor : List Cond := .code y_Net_sendFor b_Net_sendFor 5 none :: lw_g
set_option maxRecDepth 20000 in
theorem g_Net_sendFor : GoodIn lw_g w_Net_sendFor := g_cons (g_in (List.mem_append_right _ (List.mem_append_right _ (List.mem_append_left _ (List.mem_of_getElem? (i := 72) rfl)))) rfl)
abbrev b_Net_sendWord : ByteArray := prog_5_method_8_code
abbrev y_Net_sendWord : MethodName := ⟨"HomeDirectory$Network", "sendWord", "(IIIII)V"⟩
def w_Net_sendWord : List Cond := .code y_Net_sendWord b_Net_sendWord 6 none :: lw_g
set_option maxRecDepth 20000 in
theorem g_Net_sendWord : GoodIn lw_g w_Net_sendWord := g_cons (g_in (List.mem_append_right _ (List.mem_append_right _ (List.mem_append_left _ (List.mem_of_getElem? (i := 4) rfl)))) rfl)
abbrev b_Net_sendData : ByteArray := prog_5_method_9_code
abbrev y_Net_sendData : MethodName := ⟨"HomeDirectory$Network", "sendData", "(IIIII)V"⟩
def w_Net_sendData : List Cond := .code y_Net_sendData b_Net_sendData 6 none :: lw_g
set_option maxRecDepth 20000 in
theorem g_Net_sendData : GoodIn lw_g w_Net_sendData := g_cons (g_in (List.mem_append_right _ (List.mem_append_right _ (List.mem_append_left _ (List.mem_of_getElem? (i := 79) rfl)))) rfl)
abbrev b_Net_send : ByteArray := prog_5_method_10_code
abbrev y_Net_send : MethodName := ⟨"HomeDirectory$Network", "send", "(IIIIIII)V"⟩
def w_Net_send : List Cond := .code y_Net_send b_Net_send 9 none :: lw_g
set_option maxRecDepth 20000 in
theorem g_Net_send : GoodIn lw_g w_Net_send := g_cons (g_in (List.mem_append_right _ (List.mem_append_right _ (List.mem_append_left _ (List.mem_of_getElem? (i := 8) rfl)))) rfl)
abbrev b_Law_cell : ByteArray := method_2_code
abbrev y_Law_cell : MethodName := ⟨"HomeDirectoryLaw", "cell", "([II)I"⟩
def w_Law_cell : List Cond := .code y_Law_cell b_Law_cell 2 (some .int) :: lw_g
set_option maxRecDepth 20000 in
theorem g_Law_cell : GoodIn lw_g w_Law_cell := g_cons (g_in (List.mem_append_right _ (List.mem_append_right _ (List.mem_append_left _ (List.mem_of_getElem? (i := 199) rfl)))) rfl)
abbrev b_Int_bitCount : ByteArray := prog_8_method_49_code
abbrev y_Int_bitCount : MethodName := ⟨"java/lang/Integer", "bitCount", "(I)I"⟩
def w_Int_bitCount : List Cond := .code y_Int_bitCount b_Int_bitCount 1 (some .int) :: lw_g
set_option maxRecDepth 20000 in
theorem g_Int_bitCount : GoodIn lw_g w_Int_bitCount := g_cons (g_in (List.mem_append_right _ (List.mem_append_right _ (List.mem_append_left _ (List.mem_of_getElem? (i := 86) rfl)))) rfl)
abbrev b_Math_max : ByteArray := prog_9_method_65_code
abbrev y_Math_max : MethodName := ⟨"java/lang/Math", "max", "(II)I"⟩
def w_Math_max : List Cond := .code y_Math_max b_Math_max 2 (some .int) :: lw_g
set_option maxRecDepth 20000 in
theorem g_Math_max : GoodIn lw_g w_Math_max := g_cons (g_in (List.mem_append_right _ (List.mem_append_left _ (List.mem_of_getElem? (i := 23) rfl))) rfl)
abbrev b_Math_min : ByteArray := prog_9_method_69_code
abbrev y_Math_min : MethodName := ⟨"java/lang/Math", "min", "(II)I"⟩
def w_Math_min : List Cond := .code y_Math_min b_Math_min 2 (some .int) :: lw_g
set_option maxRecDepth 20000 in
theorem g_Math_min : GoodIn lw_g w_Math_min := g_cons (g_in (List.mem_append_right _ (List.mem_append_left _ (List.mem_of_getElem? (i := 20) rfl))) rfl)
abbrev b_Arr_fill : ByteArray := prog_10_method_103_code
abbrev y_Arr_fill : MethodName := ⟨"java/util/Arrays", "fill", "([II)V"⟩
def w_Arr_fill : List Cond := .code y_Arr_fill b_Arr_fill 4 none :: lw_g
set_option maxRecDepth 20000 in
theorem g_Arr_fill : GoodIn lw_g w_Arr_fill := g_cons (g_in (List.mem_append_right _ (List.mem_append_left _ (List.mem_of_getElem? (i := 96) rfl))) rfl)
