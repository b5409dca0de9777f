def tb_Row : u_T := fun k => match k with
  | _ => ("KnotReader$Row", "cells", "[I", true)
def tf_Row : Nat → FieldType := fun k => match k with
  | _ => .array (.int)
theorem nm_Row : ∀ a, a < 1 → ∀ b, b < 1 → a ≠ b → (tb_Row a).2.1 ≠ (tb_Row b).2.1 := by decide +kernel
theorem ty_Row : ∀ k, k < 1 → parseFieldDescriptor (tb_Row k).2.2.1 = some (tf_Row k) := by decide +kernel
theorem in_Row : ∀ w ∈ u_ws "KnotReader$Row" tb_Row 1, w ∈ jk_WA := fun w hw => jk_WA_of (List.mem_append_right _ ((by decide +kernel : ∀ w ∈ u_ws "KnotReader$Row" tb_Row 1, w ∈ tables_1) w hw)) ((by decide +kernel : ∀ w ∈ u_ws "KnotReader$Row" tb_Row 1, goodWord w = true) w hw)
def tb_Knots : u_T := fun k => match k with
  | _ => ("", "", "", false)
def tf_Knots : Nat → FieldType := fun k => match k with
  | _ => .int
theorem nm_Knots : ∀ a, a < 0 → ∀ b, b < 0 → a ≠ b → (tb_Knots a).2.1 ≠ (tb_Knots b).2.1 := by decide +kernel
theorem ty_Knots : ∀ k, k < 0 → parseFieldDescriptor (tb_Knots k).2.2.1 = some (tf_Knots k) := by decide +kernel
theorem in_Knots : ∀ w ∈ u_ws "KnotReader$Knots" tb_Knots 0, w ∈ jk_WA := fun w hw => jk_WA_of (List.mem_append_right _ ((by decide +kernel : ∀ w ∈ u_ws "KnotReader$Knots" tb_Knots 0, w ∈ tables_1) w hw)) ((by decide +kernel : ∀ w ∈ u_ws "KnotReader$Knots" tb_Knots 0, goodWord w = true) w hw)
def tb_Topics : u_T := fun k => match k with
  | 0 => ("KnotReader$Topics", "size", "I", false)
  | _ => ("KnotReader$Topics", "names", "LKnotReader$Row;", true)
def tf_Topics : Nat → FieldType := fun k => match k with
  | 0 => .int
  | _ => .object "KnotReader$Row"
theorem nm_Topics : ∀ a, a < 2 → ∀ b, b < 2 → a ≠ b → (tb_Topics a).2.1 ≠ (tb_Topics b).2.1 := by decide +kernel
theorem ty_Topics : ∀ k, k < 2 → parseFieldDescriptor (tb_Topics k).2.2.1 = some (tf_Topics k) := by decide +kernel
theorem in_Topics : ∀ w ∈ u_ws "KnotReader$Topics" tb_Topics 2, w ∈ jk_WA := fun w hw => jk_WA_of (List.mem_append_right _ ((by decide +kernel : ∀ w ∈ u_ws "KnotReader$Topics" tb_Topics 2, w ∈ tables_1) w hw)) ((by decide +kernel : ∀ w ∈ u_ws "KnotReader$Topics" tb_Topics 2, goodWord w = true) w hw)
def tb_Text : u_T := fun k => match k with
  | 0 => ("KnotReader$Text", "bytes", "LKnotReader$Row;", true)
  | 1 => ("KnotReader$Text", "length", "I", false)
  | 2 => ("KnotReader$Text", "kind", "I", false)
  | 3 => ("KnotReader$Text", "start", "I", false)
  | 4 => ("KnotReader$Text", "end", "I", false)
  | 5 => ("KnotReader$Text", "code", "I", false)
  | _ => ("KnotReader$Text", "offset", "I", false)
def tf_Text : Nat → FieldType := fun k => match k with
  | 0 => .object "KnotReader$Row"
  | 1 => .int
  | 2 => .int
  | 3 => .int
  | 4 => .int
  | 5 => .int
  | _ => .int
theorem nm_Text : ∀ a, a < 7 → ∀ b, b < 7 → a ≠ b → (tb_Text a).2.1 ≠ (tb_Text b).2.1 := by decide +kernel
theorem ty_Text : ∀ k, k < 7 → parseFieldDescriptor (tb_Text k).2.2.1 = some (tf_Text k) := by decide +kernel
theorem in_Text : ∀ w ∈ u_ws "KnotReader$Text" tb_Text 7, w ∈ jk_WA := fun w hw => jk_WA_of (List.mem_append_right _ ((by decide +kernel : ∀ w ∈ u_ws "KnotReader$Text" tb_Text 7, w ∈ tables_1) w hw)) ((by decide +kernel : ∀ w ∈ u_ws "KnotReader$Text" tb_Text 7, goodWord w = true) w hw)
def tb_Output : u_T := fun k => match k with
  | 0 => ("KnotReader$Output", "bytes", "LKnotReader$Row;", true)
  | _ => ("KnotReader$Output", "length", "I", false)
def tf_Output : Nat → FieldType := fun k => match k with
  | 0 => .object "KnotReader$Row"
  | _ => .int
theorem nm_Output : ∀ a, a < 2 → ∀ b, b < 2 → a ≠ b → (tb_Output a).2.1 ≠ (tb_Output b).2.1 := by decide +kernel
theorem ty_Output : ∀ k, k < 2 → parseFieldDescriptor (tb_Output k).2.2.1 = some (tf_Output k) := by decide +kernel
theorem in_Output : ∀ w ∈ u_ws "KnotReader$Output" tb_Output 2, w ∈ jk_WA := fun w hw => jk_WA_of (List.mem_append_right _ ((by decide +kernel : ∀ w ∈ u_ws "KnotReader$Output" tb_Output 2, w ∈ tables_1) w hw)) ((by decide +kernel : ∀ w ∈ u_ws "KnotReader$Output" tb_Output 2, goodWord w = true) w hw)
def tb_Cords : u_T := fun k => match k with
  | 0 => ("KnotReader$Cords", "clusters", "I", false)
  | 1 => ("KnotReader$Cords", "size", "I", false)
  | 2 => ("KnotReader$Cords", "starts", "LKnotReader$Row;", true)
  | 3 => ("KnotReader$Cords", "depth", "LKnotReader$Row;", true)
  | 4 => ("KnotReader$Cords", "topic", "LKnotReader$Row;", true)
  | 5 => ("KnotReader$Cords", "value", "LKnotReader$Row;", true)
  | _ => ("KnotReader$Cords", "nibbled", "LKnotReader$Row;", true)
def tf_Cords : Nat → FieldType := fun k => match k with
  | 0 => .int
  | 1 => .int
  | 2 => .object "KnotReader$Row"
  | 3 => .object "KnotReader$Row"
  | 4 => .object "KnotReader$Row"
  | 5 => .object "KnotReader$Row"
  | _ => .object "KnotReader$Row"
theorem nm_Cords : ∀ a, a < 7 → ∀ b, b < 7 → a ≠ b → (tb_Cords a).2.1 ≠ (tb_Cords b).2.1 := by decide +kernel
theorem ty_Cords : ∀ k, k < 7 → parseFieldDescriptor (tb_Cords k).2.2.1 = some (tf_Cords k) := by decide +kernel
theorem in_Cords : ∀ w ∈ u_ws "KnotReader$Cords" tb_Cords 7, w ∈ jk_WA := fun w hw => jk_WA_of (List.mem_append_right _ ((by decide +kernel : ∀ w ∈ u_ws "KnotReader$Cords" tb_Cords 7, w ∈ tables_1) w hw)) ((by decide +kernel : ∀ w ∈ u_ws "KnotReader$Cords" tb_Cords 7, goodWord w = true) w hw)
def tb_History : u_T := fun k => match k with
  | 0 => ("KnotReader$History", "ring", "[LKnotReader$Cords;", true)
  | 1 => ("KnotReader$History", "latest", "I", false)
  | _ => ("KnotReader$History", "size", "I", false)
def tf_History : Nat → FieldType := fun k => match k with
  | 0 => .array (.object "KnotReader$Cords")
  | 1 => .int
  | _ => .int
theorem nm_History : ∀ a, a < 3 → ∀ b, b < 3 → a ≠ b → (tb_History a).2.1 ≠ (tb_History b).2.1 := by decide +kernel
theorem ty_History : ∀ k, k < 3 → parseFieldDescriptor (tb_History k).2.2.1 = some (tf_History k) := by decide +kernel
theorem in_History : ∀ w ∈ u_ws "KnotReader$History" tb_History 3, w ∈ jk_WA := fun w hw => jk_WA_of (List.mem_append_right _ ((by decide +kernel : ∀ w ∈ u_ws "KnotReader$History" tb_History 3, w ∈ tables_1) w hw)) ((by decide +kernel : ∀ w ∈ u_ws "KnotReader$History" tb_History 3, goodWord w = true) w hw)
def tb_Script : u_T := fun k => match k with
  | 0 => ("KnotReader$Script", "size", "I", false)
  | 1 => ("KnotReader$Script", "kinds", "LKnotReader$Row;", true)
  | 2 => ("KnotReader$Script", "firsts", "LKnotReader$Row;", true)
  | 3 => ("KnotReader$Script", "seconds", "LKnotReader$Row;", true)
  | _ => ("KnotReader$Script", "thirds", "LKnotReader$Row;", true)
def tf_Script : Nat → FieldType := fun k => match k with
  | 0 => .int
  | 1 => .object "KnotReader$Row"
  | 2 => .object "KnotReader$Row"
  | 3 => .object "KnotReader$Row"
  | _ => .object "KnotReader$Row"
theorem nm_Script : ∀ a, a < 5 → ∀ b, b < 5 → a ≠ b → (tb_Script a).2.1 ≠ (tb_Script b).2.1 := by decide +kernel
theorem ty_Script : ∀ k, k < 5 → parseFieldDescriptor (tb_Script k).2.2.1 = some (tf_Script k) := by decide +kernel
theorem in_Script : ∀ w ∈ u_ws "KnotReader$Script" tb_Script 5, w ∈ jk_WA := fun w hw => jk_WA_of (List.mem_append_right _ ((by decide +kernel : ∀ w ∈ u_ws "KnotReader$Script" tb_Script 5, w ∈ tables_1) w hw)) ((by decide +kernel : ∀ w ∈ u_ws "KnotReader$Script" tb_Script 5, goodWord w = true) w hw)
def tb_Setup : u_T := fun k => match k with
  | _ => ("", "", "", false)
def tf_Setup : Nat → FieldType := fun k => match k with
  | _ => .int
theorem nm_Setup : ∀ a, a < 0 → ∀ b, b < 0 → a ≠ b → (tb_Setup a).2.1 ≠ (tb_Setup b).2.1 := by decide +kernel
theorem ty_Setup : ∀ k, k < 0 → parseFieldDescriptor (tb_Setup k).2.2.1 = some (tf_Setup k) := by decide +kernel
theorem in_Setup : ∀ w ∈ u_ws "KnotReader$Setup" tb_Setup 0, w ∈ jk_WA := fun w hw => jk_WA_of (List.mem_append_right _ ((by decide +kernel : ∀ w ∈ u_ws "KnotReader$Setup" tb_Setup 0, w ∈ tables_1) w hw)) ((by decide +kernel : ∀ w ∈ u_ws "KnotReader$Setup" tb_Setup 0, goodWord w = true) w hw)
def tb_Check : u_T := fun k => match k with
  | _ => ("", "", "", false)
def tf_Check : Nat → FieldType := fun k => match k with
  | _ => .int
theorem nm_Check : ∀ a, a < 0 → ∀ b, b < 0 → a ≠ b → (tb_Check a).2.1 ≠ (tb_Check b).2.1 := by decide +kernel
theorem ty_Check : ∀ k, k < 0 → parseFieldDescriptor (tb_Check k).2.2.1 = some (tf_Check k) := by decide +kernel
theorem in_Check : ∀ w ∈ u_ws "KnotReader$Check" tb_Check 0, w ∈ jk_WA := fun w hw => jk_WA_of (List.mem_append_right _ ((by decide +kernel : ∀ w ∈ u_ws "KnotReader$Check" tb_Check 0, w ∈ tables_1) w hw)) ((by decide +kernel : ∀ w ∈ u_ws "KnotReader$Check" tb_Check 0, goodWord w = true) w hw)
def tb_KR : u_T := fun k => match k with
  | 0 => ("KnotReader", "input", "LKnotReader$Text;", true)
  | 1 => ("KnotReader", "output", "LKnotReader$Output;", true)
  | 2 => ("KnotReader", "topics", "LKnotReader$Topics;", true)
  | 3 => ("KnotReader", "cords", "LKnotReader$Cords;", true)
  | 4 => ("KnotReader", "draftTopics", "LKnotReader$Topics;", true)
  | 5 => ("KnotReader", "draft", "LKnotReader$Cords;", true)
  | 6 => ("KnotReader", "saved", "LKnotReader$Cords;", true)
  | 7 => ("KnotReader", "history", "LKnotReader$History;", true)
  | 8 => ("KnotReader", "script", "LKnotReader$Script;", true)
  | 9 => ("KnotReader", "hasSaved", "Z", false)
  | 10 => ("KnotReader", "reportedCode", "I", false)
  | _ => ("KnotReader", "reportedOffset", "I", false)
def tf_KR : Nat → FieldType := fun k => match k with
  | 0 => .object "KnotReader$Text"
  | 1 => .object "KnotReader$Output"
  | 2 => .object "KnotReader$Topics"
  | 3 => .object "KnotReader$Cords"
  | 4 => .object "KnotReader$Topics"
  | 5 => .object "KnotReader$Cords"
  | 6 => .object "KnotReader$Cords"
  | 7 => .object "KnotReader$History"
  | 8 => .object "KnotReader$Script"
  | 9 => .boolean
  | 10 => .int
  | _ => .int
theorem nm_KR : ∀ a, a < 12 → ∀ b, b < 12 → a ≠ b → (tb_KR a).2.1 ≠ (tb_KR b).2.1 := by decide +kernel
theorem ty_KR : ∀ k, k < 12 → parseFieldDescriptor (tb_KR k).2.2.1 = some (tf_KR k) := by decide +kernel
theorem in_KR : ∀ w ∈ u_ws "KnotReader" tb_KR 12, w ∈ jk_WA := fun w hw => jk_WA_of (List.mem_append_right _ ((by decide +kernel : ∀ w ∈ u_ws "KnotReader" tb_KR 12, w ∈ tables_1) w hw)) ((by decide +kernel : ∀ w ∈ u_ws "KnotReader" tb_KR 12, goodWord w = true) w hw)
def tb_Md : u_T := fun k => match k with
  | 0 => ("KnotReaderModel", "w", "[I", true)
  | 1 => ("KnotReaderModel", "wKept", "[I", true)
  | 2 => ("KnotReaderModel", "saved", "[I", true)
  | 3 => ("KnotReaderModel", "past", "[I", true)
  | 4 => ("KnotReaderModel", "pastMany", "I", false)
  | 5 => ("KnotReaderModel", "isSaved", "Z", false)
  | 6 => ("KnotReaderModel", "thrown", "I", false)
  | 7 => ("KnotReaderModel", "input", "[I", true)
  | 8 => ("KnotReaderModel", "inputMany", "I", false)
  | 9 => ("KnotReaderModel", "lastError", "I", false)
  | 10 => ("KnotReaderModel", "lastOffset", "I", false)
  | 11 => ("KnotReaderModel", "error", "I", false)
  | 12 => ("KnotReaderModel", "offset", "I", false)
  | 13 => ("KnotReaderModel", "nextByte", "I", false)
  | 14 => ("KnotReaderModel", "begin", "I", false)
  | 15 => ("KnotReaderModel", "value", "I", false)
  | 16 => ("KnotReaderModel", "token", "I", false)
  | 17 => ("KnotReaderModel", "got", "I", false)
  | 18 => ("KnotReaderModel", "n", "[I", true)
  | 19 => ("KnotReaderModel", "order", "[I", true)
  | 20 => ("KnotReaderModel", "numbers", "[I", true)
  | 21 => ("KnotReaderModel", "orders", "I", false)
  | 22 => ("KnotReaderModel", "output", "[I", true)
  | _ => ("KnotReaderModel", "outputMany", "I", false)
def tf_Md : Nat → FieldType := fun k => match k with
  | 0 => .array (.int)
  | 1 => .array (.int)
  | 2 => .array (.int)
  | 3 => .array (.int)
  | 4 => .int
  | 5 => .boolean
  | 6 => .int
  | 7 => .array (.int)
  | 8 => .int
  | 9 => .int
  | 10 => .int
  | 11 => .int
  | 12 => .int
  | 13 => .int
  | 14 => .int
  | 15 => .int
  | 16 => .int
  | 17 => .int
  | 18 => .array (.int)
  | 19 => .array (.int)
  | 20 => .array (.int)
  | 21 => .int
  | 22 => .array (.int)
  | _ => .int
theorem nm_Md : ∀ a, a < 24 → ∀ b, b < 24 → a ≠ b → (tb_Md a).2.1 ≠ (tb_Md b).2.1 := by decide +kernel
theorem ty_Md : ∀ k, k < 24 → parseFieldDescriptor (tb_Md k).2.2.1 = some (tf_Md k) := by decide +kernel
theorem in_Md : ∀ w ∈ u_ws "KnotReaderModel" tb_Md 24, w ∈ jk_WA := fun w hw => jk_WA_of (List.mem_append_right _ ((by decide +kernel : ∀ w ∈ u_ws "KnotReaderModel" tb_Md 24, w ∈ tables_1) w hw)) ((by decide +kernel : ∀ w ∈ u_ws "KnotReaderModel" tb_Md 24, goodWord w = true) w hw)
abbrev jk_cl : List vw_C := [("KnotReader$Row", tb_Row, 1), ("KnotReader$Knots", tb_Knots, 0), ("KnotReader$Topics", tb_Topics, 2), ("KnotReader$Text", tb_Text, 7), ("KnotReader$Output", tb_Output, 2), ("KnotReader$Cords", tb_Cords, 7), ("KnotReader$History", tb_History, 3), ("KnotReader$Script", tb_Script, 5), ("KnotReader$Setup", tb_Setup, 0), ("KnotReader$Check", tb_Check, 0), ("KnotReader", tb_KR, 12), ("KnotReaderModel", tb_Md, 24)]
abbrev jk_ty (cI cR : ClassId) : List (ClassId × FieldType) := [(cI, .int), (cR, .object "KnotReader$Cords")]
def mn_Row_get : MethodName := ⟨"KnotReader$Row", "get", "(I)I"⟩
abbrev mb_Row_get : ByteArray := prog_7_method_2_code
theorem na_Row_get : jk_nm mn_Row_get 1 := ⟨by decide +kernel, by decide +kernel, by decide +kernel⟩
def mn_Row_set : MethodName := ⟨"KnotReader$Row", "set", "(II)V"⟩
abbrev mb_Row_set : ByteArray := prog_7_method_3_code
theorem na_Row_set : jk_nm mn_Row_set 2 := ⟨by decide +kernel, by decide +kernel, by decide +kernel⟩
def mn_Row_replace : MethodName := ⟨"KnotReader$Row", "replace", "(II)I"⟩
abbrev mb_Row_replace : ByteArray := prog_7_method_4_code
theorem na_Row_replace : jk_nm mn_Row_replace 2 := ⟨by decide +kernel, by decide +kernel, by decide +kernel⟩
def mn_Row_copyFrom : MethodName := ⟨"KnotReader$Row", "copyFrom", "(LKnotReader$Row;)V"⟩
abbrev mb_Row_copyFrom : ByteArray := prog_7_method_5_code
theorem na_Row_copyFrom : jk_nm mn_Row_copyFrom 1 := ⟨by decide +kernel, by decide +kernel, by decide +kernel⟩
def mn_Row_insert : MethodName := ⟨"KnotReader$Row", "insert", "(III)V"⟩
abbrev mb_Row_insert : ByteArray := prog_7_method_6_code
theorem na_Row_insert : jk_nm mn_Row_insert 3 := ⟨by decide +kernel, by decide +kernel, by decide +kernel⟩
def mn_Row_remove : MethodName := ⟨"KnotReader$Row", "remove", "(III)V"⟩
abbrev mb_Row_remove : ByteArray := prog_7_method_7_code
theorem na_Row_remove : jk_nm mn_Row_remove 3 := ⟨by decide +kernel, by decide +kernel, by decide +kernel⟩
def mn_Knots_power : MethodName := ⟨"KnotReader$Knots", "power", "(I)I"⟩
abbrev mb_Knots_power : ByteArray := prog_5_method_2_code
theorem na_Knots_power : jk_nm mn_Knots_power 1 := ⟨by decide +kernel, by decide +kernel, by decide +kernel⟩
def mn_Knots_withoutLast : MethodName := ⟨"KnotReader$Knots", "withoutLast", "(II)I"⟩
abbrev mb_Knots_withoutLast : ByteArray := prog_5_method_6_code
theorem na_Knots_withoutLast : jk_nm mn_Knots_withoutLast 2 := ⟨by decide +kernel, by decide +kernel, by decide +kernel⟩
def mn_Knots_at : MethodName := ⟨"KnotReader$Knots", "at", "(II)I"⟩
abbrev mb_Knots_at : ByteArray := prog_5_method_3_code
theorem na_Knots_at : jk_nm mn_Knots_at 2 := ⟨by decide +kernel, by decide +kernel, by decide +kernel⟩
def mn_Knots_sum : MethodName := ⟨"KnotReader$Knots", "sum", "(I)I"⟩
abbrev mb_Knots_sum : ByteArray := prog_5_method_4_code
theorem na_Knots_sum : jk_nm mn_Knots_sum 1 := ⟨by decide +kernel, by decide +kernel, by decide +kernel⟩
def mn_Knots_lose : MethodName := ⟨"KnotReader$Knots", "lose", "(II)I"⟩
abbrev mb_Knots_lose : ByteArray := prog_5_method_5_code
theorem na_Knots_lose : jk_nm mn_Knots_lose 2 := ⟨by decide +kernel, by decide +kernel, by decide +kernel⟩
theorem tm_3 : Jvm.Cond.initialized "KnotReader$Row" ∈ jk_WA := jk_tb 3 (by decide +kernel) (by decide +kernel)
theorem tm_14 : Jvm.Cond.initialized "KnotReader$Knots" ∈ jk_WA := jk_tb 14 (by decide +kernel) (by decide +kernel)
theorem tm_44 : Jvm.Cond.fieldLink "KnotReader$Row" (7 : Nat) "KnotReader$Row" "cells" "[I" ∈ jk_WA := jk_tb 44 (by decide +kernel) (by decide +kernel)
theorem tm_257 : Jvm.Cond.instanceMethod mn_Row_set ∈ jk_WA := jk_tb 257 (by decide +kernel) (by decide +kernel)
theorem tm_258 : Jvm.Cond.selects "KnotReader$Row" mn_Row_set mn_Row_set ∈ jk_WA := jk_tb 258 (by decide +kernel) (by decide +kernel)
theorem tm_259 : Jvm.Cond.code mn_Row_set prog_7_method_3_code (3 : Nat) none ∈ jk_WA := jk_tb 259 (by decide +kernel) (by decide +kernel)
theorem tm_292 : Jvm.Cond.instanceMethod mn_Row_get ∈ jk_WA := jk_tb 292 (by decide +kernel) (by decide +kernel)
theorem tm_293 : Jvm.Cond.selects "KnotReader$Row" mn_Row_get mn_Row_get ∈ jk_WA := jk_tb 293 (by decide +kernel) (by decide +kernel)
theorem tm_294 : Jvm.Cond.code mn_Row_get prog_7_method_2_code (2 : Nat) (some .int) ∈ jk_WA := jk_tb 294 (by decide +kernel) (by decide +kernel)
theorem tm_395 : Jvm.Cond.methodLink "KnotReader$Row" (13 : Nat) mn_Row_get ∈ jk_WA := jk_tb 395 (by decide +kernel) (by decide +kernel)
theorem tm_396 : Jvm.Cond.methodLink "KnotReader$Row" (17 : Nat) mn_Row_set ∈ jk_WA := jk_tb 396 (by decide +kernel) (by decide +kernel)
theorem tm_408 : Jvm.Cond.methodLink "KnotReader$Knots" (15 : Nat) mn_Knots_at ∈ jk_WA := jk_tb 408 (by decide +kernel) (by decide +kernel)
theorem tm_409 : Jvm.Cond.static mn_Knots_at ∈ jk_WA := jk_tb 409 (by decide +kernel) (by decide +kernel)
theorem tm_410 : Jvm.Cond.code mn_Knots_at prog_5_method_3_code (2 : Nat) (some .int) ∈ jk_WA := jk_tb 410 (by decide +kernel) (by decide +kernel)
theorem tm_411 : Jvm.Cond.methodLink "KnotReader$Knots" (9 : Nat) mn_Knots_withoutLast ∈ jk_WA := jk_tb 411 (by decide +kernel) (by decide +kernel)
theorem tm_412 : Jvm.Cond.static mn_Knots_withoutLast ∈ jk_WA := jk_tb 412 (by decide +kernel) (by decide +kernel)
theorem tm_413 : Jvm.Cond.code mn_Knots_withoutLast prog_5_method_6_code (4 : Nat) (some .int) ∈ jk_WA := jk_tb 413 (by decide +kernel) (by decide +kernel)
theorem tm_417 : Jvm.Cond.methodLink "KnotReader$Knots" (18 : Nat) mn_Knots_power ∈ jk_WA := jk_tb 417 (by decide +kernel) (by decide +kernel)
theorem tm_418 : Jvm.Cond.static mn_Knots_power ∈ jk_WA := jk_tb 418 (by decide +kernel) (by decide +kernel)
theorem tm_419 : Jvm.Cond.code mn_Knots_power prog_5_method_2_code (1 : Nat) (some .int) ∈ jk_WA := jk_tb 419 (by decide +kernel) (by decide +kernel)
theorem rd_Row_get_0 : decode mb_Row_get 0 = .ok (.iload_n 1, 1) := by decide +kernel
theorem rd_Row_get_1 : decode mb_Row_get 1 = .ok (.ifCond .lt 21, 3) := by decide +kernel
theorem rd_Row_get_4 : decode mb_Row_get 4 = .ok (.iload_n 1, 1) := by decide +kernel
theorem rd_Row_get_5 : decode mb_Row_get 5 = .ok (.aload_n 0, 1) := by decide +kernel
theorem rd_Row_get_6 : decode mb_Row_get 6 = .ok (.getfield 7, 3) := by decide +kernel
theorem rd_Row_get_9 : decode mb_Row_get 9 = .ok (.arraylength, 1) := by decide +kernel
theorem rd_Row_get_10 : decode mb_Row_get 10 = .ok (.if_icmp .ge 12, 3) := by decide +kernel
theorem rd_Row_get_13 : decode mb_Row_get 13 = .ok (.aload_n 0, 1) := by decide +kernel
theorem rd_Row_get_14 : decode mb_Row_get 14 = .ok (.getfield 7, 3) := by decide +kernel
theorem rd_Row_get_17 : decode mb_Row_get 17 = .ok (.iload_n 1, 1) := by decide +kernel
theorem rd_Row_get_18 : decode mb_Row_get 18 = .ok (.iaload, 1) := by decide +kernel
theorem rd_Row_get_19 : decode mb_Row_get 19 = .ok (.goto 4, 3) := by decide +kernel
theorem rd_Row_get_22 : decode mb_Row_get 22 = .ok (.iconst 0, 1) := by decide +kernel
theorem rd_Row_get_23 : decode mb_Row_get 23 = .ok (.ireturn, 1) := by decide +kernel
theorem rd_Row_set_0 : decode mb_Row_set 0 = .ok (.iload_n 1, 1) := by decide +kernel
theorem rd_Row_set_1 : decode mb_Row_set 1 = .ok (.ifCond .lt 19, 3) := by decide +kernel
theorem rd_Row_set_4 : decode mb_Row_set 4 = .ok (.iload_n 1, 1) := by decide +kernel
theorem rd_Row_set_5 : decode mb_Row_set 5 = .ok (.aload_n 0, 1) := by decide +kernel
theorem rd_Row_set_6 : decode mb_Row_set 6 = .ok (.getfield 7, 3) := by decide +kernel
theorem rd_Row_set_9 : decode mb_Row_set 9 = .ok (.arraylength, 1) := by decide +kernel
theorem rd_Row_set_10 : decode mb_Row_set 10 = .ok (.if_icmp .ge 10, 3) := by decide +kernel
theorem rd_Row_set_13 : decode mb_Row_set 13 = .ok (.aload_n 0, 1) := by decide +kernel
theorem rd_Row_set_14 : decode mb_Row_set 14 = .ok (.getfield 7, 3) := by decide +kernel
theorem rd_Row_set_17 : decode mb_Row_set 17 = .ok (.iload_n 1, 1) := by decide +kernel
theorem rd_Row_set_18 : decode mb_Row_set 18 = .ok (.iload_n 2, 1) := by decide +kernel
theorem rd_Row_set_19 : decode mb_Row_set 19 = .ok (.iastore, 1) := by decide +kernel
theorem rd_Row_set_20 : decode mb_Row_set 20 = .ok (.return_, 1) := by decide +kernel
theorem rd_Row_replace_0 : decode mb_Row_replace 0 = .ok (.aload_n 0, 1) := by decide +kernel
theorem rd_Row_replace_1 : decode mb_Row_replace 1 = .ok (.iload_n 1, 1) := by decide +kernel
theorem rd_Row_replace_2 : decode mb_Row_replace 2 = .ok (.invokevirtual 13, 3) := by decide +kernel
theorem rd_Row_replace_5 : decode mb_Row_replace 5 = .ok (.istore_n 3, 1) := by decide +kernel
theorem rd_Row_replace_6 : decode mb_Row_replace 6 = .ok (.aload_n 0, 1) := by decide +kernel
theorem rd_Row_replace_7 : decode mb_Row_replace 7 = .ok (.iload_n 1, 1) := by decide +kernel
theorem rd_Row_replace_8 : decode mb_Row_replace 8 = .ok (.iload_n 2, 1) := by decide +kernel
theorem rd_Row_replace_9 : decode mb_Row_replace 9 = .ok (.invokevirtual 17, 3) := by decide +kernel
theorem rd_Row_replace_12 : decode mb_Row_replace 12 = .ok (.iload_n 3, 1) := by decide +kernel
theorem rd_Row_replace_13 : decode mb_Row_replace 13 = .ok (.ireturn, 1) := by decide +kernel
theorem rd_Row_copyFrom_0 : decode mb_Row_copyFrom 0 = .ok (.iconst 0, 1) := by decide +kernel
theorem rd_Row_copyFrom_1 : decode mb_Row_copyFrom 1 = .ok (.istore_n 2, 1) := by decide +kernel
theorem rd_Row_copyFrom_2 : decode mb_Row_copyFrom 2 = .ok (.iload_n 2, 1) := by decide +kernel
theorem rd_Row_copyFrom_3 : decode mb_Row_copyFrom 3 = .ok (.aload_n 0, 1) := by decide +kernel
theorem rd_Row_copyFrom_4 : decode mb_Row_copyFrom 4 = .ok (.getfield 7, 3) := by decide +kernel
theorem rd_Row_copyFrom_7 : decode mb_Row_copyFrom 7 = .ok (.arraylength, 1) := by decide +kernel
theorem rd_Row_copyFrom_8 : decode mb_Row_copyFrom 8 = .ok (.if_icmp .ge 20, 3) := by decide +kernel
theorem rd_Row_copyFrom_11 : decode mb_Row_copyFrom 11 = .ok (.aload_n 0, 1) := by decide +kernel
theorem rd_Row_copyFrom_12 : decode mb_Row_copyFrom 12 = .ok (.getfield 7, 3) := by decide +kernel
theorem rd_Row_copyFrom_15 : decode mb_Row_copyFrom 15 = .ok (.iload_n 2, 1) := by decide +kernel
theorem rd_Row_copyFrom_16 : decode mb_Row_copyFrom 16 = .ok (.aload_n 1, 1) := by decide +kernel
theorem rd_Row_copyFrom_17 : decode mb_Row_copyFrom 17 = .ok (.iload_n 2, 1) := by decide +kernel
theorem rd_Row_copyFrom_18 : decode mb_Row_copyFrom 18 = .ok (.invokevirtual 13, 3) := by decide +kernel
theorem rd_Row_copyFrom_21 : decode mb_Row_copyFrom 21 = .ok (.iastore, 1) := by decide +kernel
theorem rd_Row_copyFrom_22 : decode mb_Row_copyFrom 22 = .ok (.iinc 2 1, 3) := by decide +kernel
theorem rd_Row_copyFrom_25 : decode mb_Row_copyFrom 25 = .ok (.goto (-23), 3) := by decide +kernel
theorem rd_Row_copyFrom_28 : decode mb_Row_copyFrom 28 = .ok (.return_, 1) := by decide +kernel
theorem rd_Row_insert_0 : decode mb_Row_insert 0 = .ok (.iload_n 3, 1) := by decide +kernel
theorem rd_Row_insert_1 : decode mb_Row_insert 1 = .ok (.istore 4, 2) := by decide +kernel
theorem rd_Row_insert_3 : decode mb_Row_insert 3 = .ok (.iload 4, 2) := by decide +kernel
theorem rd_Row_insert_5 : decode mb_Row_insert 5 = .ok (.iload_n 1, 1) := by decide +kernel
theorem rd_Row_insert_6 : decode mb_Row_insert 6 = .ok (.if_icmp .le 23, 3) := by decide +kernel
theorem rd_Row_insert_9 : decode mb_Row_insert 9 = .ok (.aload_n 0, 1) := by decide +kernel
theorem rd_Row_insert_10 : decode mb_Row_insert 10 = .ok (.iload 4, 2) := by decide +kernel
theorem rd_Row_insert_12 : decode mb_Row_insert 12 = .ok (.aload_n 0, 1) := by decide +kernel
theorem rd_Row_insert_13 : decode mb_Row_insert 13 = .ok (.iload 4, 2) := by decide +kernel
theorem rd_Row_insert_15 : decode mb_Row_insert 15 = .ok (.iconst 1, 1) := by decide +kernel
theorem rd_Row_insert_16 : decode mb_Row_insert 16 = .ok (.isub, 1) := by decide +kernel
theorem rd_Row_insert_17 : decode mb_Row_insert 17 = .ok (.invokevirtual 13, 3) := by decide +kernel
theorem rd_Row_insert_20 : decode mb_Row_insert 20 = .ok (.invokevirtual 17, 3) := by decide +kernel
theorem rd_Row_insert_23 : decode mb_Row_insert 23 = .ok (.iinc 4 (-1), 3) := by decide +kernel
theorem rd_Row_insert_26 : decode mb_Row_insert 26 = .ok (.goto (-23), 3) := by decide +kernel
theorem rd_Row_insert_29 : decode mb_Row_insert 29 = .ok (.aload_n 0, 1) := by decide +kernel
theorem rd_Row_insert_30 : decode mb_Row_insert 30 = .ok (.iload_n 1, 1) := by decide +kernel
theorem rd_Row_insert_31 : decode mb_Row_insert 31 = .ok (.iload_n 2, 1) := by decide +kernel
theorem rd_Row_insert_32 : decode mb_Row_insert 32 = .ok (.invokevirtual 17, 3) := by decide +kernel
theorem rd_Row_insert_35 : decode mb_Row_insert 35 = .ok (.return_, 1) := by decide +kernel
theorem rd_Row_remove_0 : decode mb_Row_remove 0 = .ok (.iconst 0, 1) := by decide +kernel
theorem rd_Row_remove_1 : decode mb_Row_remove 1 = .ok (.istore 4, 2) := by decide +kernel
theorem rd_Row_remove_3 : decode mb_Row_remove 3 = .ok (.iload 4, 2) := by decide +kernel
theorem rd_Row_remove_5 : decode mb_Row_remove 5 = .ok (.iload_n 3, 1) := by decide +kernel
theorem rd_Row_remove_6 : decode mb_Row_remove 6 = .ok (.iload_n 2, 1) := by decide +kernel
theorem rd_Row_remove_7 : decode mb_Row_remove 7 = .ok (.isub, 1) := by decide +kernel
theorem rd_Row_remove_8 : decode mb_Row_remove 8 = .ok (.if_icmp .ge 25, 3) := by decide +kernel
theorem rd_Row_remove_11 : decode mb_Row_remove 11 = .ok (.aload_n 0, 1) := by decide +kernel
theorem rd_Row_remove_12 : decode mb_Row_remove 12 = .ok (.iload_n 1, 1) := by decide +kernel
theorem rd_Row_remove_13 : decode mb_Row_remove 13 = .ok (.iload 4, 2) := by decide +kernel
theorem rd_Row_remove_15 : decode mb_Row_remove 15 = .ok (.iadd, 1) := by decide +kernel
theorem rd_Row_remove_16 : decode mb_Row_remove 16 = .ok (.aload_n 0, 1) := by decide +kernel
theorem rd_Row_remove_17 : decode mb_Row_remove 17 = .ok (.iload_n 2, 1) := by decide +kernel
theorem rd_Row_remove_18 : decode mb_Row_remove 18 = .ok (.iload 4, 2) := by decide +kernel
theorem rd_Row_remove_20 : decode mb_Row_remove 20 = .ok (.iadd, 1) := by decide +kernel
theorem rd_Row_remove_21 : decode mb_Row_remove 21 = .ok (.invokevirtual 13, 3) := by decide +kernel
theorem rd_Row_remove_24 : decode mb_Row_remove 24 = .ok (.invokevirtual 17, 3) := by decide +kernel
theorem rd_Row_remove_27 : decode mb_Row_remove 27 = .ok (.iinc 4 1, 3) := by decide +kernel
theorem rd_Row_remove_30 : decode mb_Row_remove 30 = .ok (.goto (-27), 3) := by decide +kernel
theorem rd_Row_remove_33 : decode mb_Row_remove 33 = .ok (.return_, 1) := by decide +kernel
theorem rd_Knots_power_0 : decode mb_Knots_power 0 = .ok (.iload_n 0, 1) := by decide +kernel
theorem rd_Knots_power_1 : decode mb_Knots_power 1 = .ok (.tableswitch 43 0 3 #[31, 33, 36, 39], 31) := by decide +kernel
theorem rd_Knots_power_32 : decode mb_Knots_power 32 = .ok (.iconst 1, 1) := by decide +kernel
theorem rd_Knots_power_33 : decode mb_Knots_power 33 = .ok (.ireturn, 1) := by decide +kernel
theorem rd_Knots_power_34 : decode mb_Knots_power 34 = .ok (.bipush 10, 2) := by decide +kernel
theorem rd_Knots_power_36 : decode mb_Knots_power 36 = .ok (.ireturn, 1) := by decide +kernel
theorem rd_Knots_power_37 : decode mb_Knots_power 37 = .ok (.bipush 100, 2) := by decide +kernel
theorem rd_Knots_power_39 : decode mb_Knots_power 39 = .ok (.ireturn, 1) := by decide +kernel
theorem rd_Knots_power_40 : decode mb_Knots_power 40 = .ok (.sipush 1000, 3) := by decide +kernel
theorem rd_Knots_power_43 : decode mb_Knots_power 43 = .ok (.ireturn, 1) := by decide +kernel
theorem rd_Knots_power_44 : decode mb_Knots_power 44 = .ok (.sipush 10000, 3) := by decide +kernel
theorem rd_Knots_power_47 : decode mb_Knots_power 47 = .ok (.ireturn, 1) := by decide +kernel
theorem rd_Knots_withoutLast_0 : decode mb_Knots_withoutLast 0 = .ok (.iload_n 0, 1) := by decide +kernel
theorem rd_Knots_withoutLast_1 : decode mb_Knots_withoutLast 1 = .ok (.istore_n 2, 1) := by decide +kernel
theorem rd_Knots_withoutLast_2 : decode mb_Knots_withoutLast 2 = .ok (.iconst 0, 1) := by decide +kernel
theorem rd_Knots_withoutLast_3 : decode mb_Knots_withoutLast 3 = .ok (.istore_n 3, 1) := by decide +kernel
theorem rd_Knots_withoutLast_4 : decode mb_Knots_withoutLast 4 = .ok (.iload_n 3, 1) := by decide +kernel
theorem rd_Knots_withoutLast_5 : decode mb_Knots_withoutLast 5 = .ok (.iload_n 1, 1) := by decide +kernel
theorem rd_Knots_withoutLast_6 : decode mb_Knots_withoutLast 6 = .ok (.if_icmp .ge 14, 3) := by decide +kernel
theorem rd_Knots_withoutLast_9 : decode mb_Knots_withoutLast 9 = .ok (.iload_n 2, 1) := by decide +kernel
theorem rd_Knots_withoutLast_10 : decode mb_Knots_withoutLast 10 = .ok (.bipush 10, 2) := by decide +kernel
theorem rd_Knots_withoutLast_12 : decode mb_Knots_withoutLast 12 = .ok (.idiv, 1) := by decide +kernel
theorem rd_Knots_withoutLast_13 : decode mb_Knots_withoutLast 13 = .ok (.istore_n 2, 1) := by decide +kernel
theorem rd_Knots_withoutLast_14 : decode mb_Knots_withoutLast 14 = .ok (.iinc 3 1, 3) := by decide +kernel
theorem rd_Knots_withoutLast_17 : decode mb_Knots_withoutLast 17 = .ok (.goto (-13), 3) := by decide +kernel
theorem rd_Knots_withoutLast_20 : decode mb_Knots_withoutLast 20 = .ok (.iload_n 2, 1) := by decide +kernel
theorem rd_Knots_withoutLast_21 : decode mb_Knots_withoutLast 21 = .ok (.ireturn, 1) := by decide +kernel
theorem rd_Knots_at_0 : decode mb_Knots_at 0 = .ok (.iload_n 0, 1) := by decide +kernel
theorem rd_Knots_at_1 : decode mb_Knots_at 1 = .ok (.iload_n 1, 1) := by decide +kernel
theorem rd_Knots_at_2 : decode mb_Knots_at 2 = .ok (.invokestatic 9, 3) := by decide +kernel
theorem rd_Knots_at_5 : decode mb_Knots_at 5 = .ok (.bipush 10, 2) := by decide +kernel
theorem rd_Knots_at_7 : decode mb_Knots_at 7 = .ok (.irem, 1) := by decide +kernel
theorem rd_Knots_at_8 : decode mb_Knots_at 8 = .ok (.ireturn, 1) := by decide +kernel
theorem rd_Knots_sum_0 : decode mb_Knots_sum 0 = .ok (.iconst 0, 1) := by decide +kernel
theorem rd_Knots_sum_1 : decode mb_Knots_sum 1 = .ok (.istore_n 1, 1) := by decide +kernel
theorem rd_Knots_sum_2 : decode mb_Knots_sum 2 = .ok (.iconst 0, 1) := by decide +kernel
theorem rd_Knots_sum_3 : decode mb_Knots_sum 3 = .ok (.istore_n 2, 1) := by decide +kernel
theorem rd_Knots_sum_4 : decode mb_Knots_sum 4 = .ok (.iload_n 2, 1) := by decide +kernel
theorem rd_Knots_sum_5 : decode mb_Knots_sum 5 = .ok (.iconst 4, 1) := by decide +kernel
theorem rd_Knots_sum_6 : decode mb_Knots_sum 6 = .ok (.if_icmp .ge 17, 3) := by decide +kernel
theorem rd_Knots_sum_9 : decode mb_Knots_sum 9 = .ok (.iload_n 1, 1) := by decide +kernel
theorem rd_Knots_sum_10 : decode mb_Knots_sum 10 = .ok (.iload_n 0, 1) := by decide +kernel
theorem rd_Knots_sum_11 : decode mb_Knots_sum 11 = .ok (.iload_n 2, 1) := by decide +kernel
theorem rd_Knots_sum_12 : decode mb_Knots_sum 12 = .ok (.invokestatic 15, 3) := by decide +kernel
theorem rd_Knots_sum_15 : decode mb_Knots_sum 15 = .ok (.iadd, 1) := by decide +kernel
theorem rd_Knots_sum_16 : decode mb_Knots_sum 16 = .ok (.istore_n 1, 1) := by decide +kernel
theorem rd_Knots_sum_17 : decode mb_Knots_sum 17 = .ok (.iinc 2 1, 3) := by decide +kernel
theorem rd_Knots_sum_20 : decode mb_Knots_sum 20 = .ok (.goto (-16), 3) := by decide +kernel
theorem rd_Knots_sum_23 : decode mb_Knots_sum 23 = .ok (.iload_n 1, 1) := by decide +kernel
theorem rd_Knots_sum_24 : decode mb_Knots_sum 24 = .ok (.ireturn, 1) := by decide +kernel
theorem rd_Knots_lose_0 : decode mb_Knots_lose 0 = .ok (.iload_n 0, 1) := by decide +kernel
theorem rd_Knots_lose_1 : decode mb_Knots_lose 1 = .ok (.iload_n 1, 1) := by decide +kernel
theorem rd_Knots_lose_2 : decode mb_Knots_lose 2 = .ok (.invokestatic 9, 3) := by decide +kernel
theorem rd_Knots_lose_5 : decode mb_Knots_lose 5 = .ok (.iload_n 1, 1) := by decide +kernel
theorem rd_Knots_lose_6 : decode mb_Knots_lose 6 = .ok (.invokestatic 18, 3) := by decide +kernel
theorem rd_Knots_lose_9 : decode mb_Knots_lose 9 = .ok (.imul, 1) := by decide +kernel
theorem rd_Knots_lose_10 : decode mb_Knots_lose 10 = .ok (.ireturn, 1) := by decide +kernel
def wd_Row_get (cI : ClassId) (n_t : Nat) (a_t a_t_k : Nat) (i_t_cells : (Int → Int)) : va_W := [(a_t, .inr (0, [.ref a_t_k])), (a_t_k, jk_W cI n_t i_t_cells)]
def fn_Row_get (n_t : Int) (i_t_cells : (Int → Int)) (x1 : Int) : Option (Int) := jk_lts x1 0 (some 0) (jk_lts x1 n_t (jk_ix n_t x1 (some (i_t_cells x1))) (some 0))
def wd_Row_set (cI : ClassId) (n_t : Nat) (a_t a_t_k : Nat) (i_t_cells : (Int → Int)) : va_W := [(a_t, .inr (0, [.ref a_t_k])), (a_t_k, jk_W cI n_t i_t_cells)]
def fn_Row_set (n_t : Int) (i_t_cells : (Int → Int)) (x1 : Int) (x2 : Int) : Option ((Int → Int)) := jk_lts x1 0 (some i_t_cells) (jk_lts x1 n_t (jk_ix n_t x1 (some (jk_up i_t_cells x1 x2))) (some i_t_cells))
def wd_Row_replace (cI : ClassId) (n_t : Nat) (a_t a_t_k : Nat) (i_t_cells : (Int → Int)) : va_W := [(a_t, .inr (0, [.ref a_t_k])), (a_t_k, jk_W cI n_t i_t_cells)]
def fn_Row_replace (n_t : Int) (i_t_cells : (Int → Int)) (x1 : Int) (x2 : Int) : Option (Int × (Int → Int)) := (fn_Row_get n_t i_t_cells x1).bind fun q2 => (fn_Row_set n_t i_t_cells x1 x2).bind fun q9 => some (q2, q9)
def wd_Row_copyFrom (cI : ClassId) (n_a : Nat) (n_t : Nat) (a_t a_t_k a_a a_a_k : Nat) (i_t_cells : (Int → Int)) (i_a_cells : (Int → Int)) : va_W := [(a_t, .inr (0, [.ref a_t_k])), (a_t_k, jk_W cI n_t i_t_cells), (a_a, .inr (0, [.ref a_a_k])), (a_a_k, jk_W cI n_a i_a_cells)]
def fn_Row_copyFrom_b2 : Nat → Int → Int → (Int → Int) → (Int → Int) → Int → Option ((Int → Int))
  | 0, _, _, _, _, _ => none
  | n + 1, n_a, n_t, t_cells, i_a_cells, v2 => jk_lts v2 n_t ((fn_Row_get n_a i_a_cells v2).bind fun q18 => jk_ix n_t v2 (fn_Row_copyFrom_b2 n n_a n_t (jk_up t_cells v2 q18) i_a_cells (v2 + 1))) (some t_cells)
def fn_Row_copyFrom (n_a : Int) (n_t : Int) (i_t_cells : (Int → Int)) (i_a_cells : (Int → Int)) : Option ((Int → Int)) := fn_Row_copyFrom_b2 jk_F n_a n_t i_t_cells i_a_cells 0
def wd_Row_insert (cI : ClassId) (n_t : Nat) (a_t a_t_k : Nat) (i_t_cells : (Int → Int)) : va_W := [(a_t, .inr (0, [.ref a_t_k])), (a_t_k, jk_W cI n_t i_t_cells)]
def fn_Row_insert_b3 : Nat → Int → (Int → Int) → Int → Int → Int → Option ((Int → Int))
  | 0, _, _, _, _, _ => none
  | n + 1, n_t, t_cells, v1, v2, v4 => jk_lts v1 v4 ((fn_Row_get n_t t_cells (v4 - 1)).bind fun q17 => (fn_Row_set n_t t_cells v4 q17).bind fun q20 => fn_Row_insert_b3 n n_t q20 v1 v2 (v4 + (-1))) ((fn_Row_set n_t t_cells v1 v2).bind fun q32 => some q32)
def fn_Row_insert (n_t : Int) (i_t_cells : (Int → Int)) (x1 : Int) (x2 : Int) (x3 : Int) : Option ((Int → Int)) := fn_Row_insert_b3 jk_F n_t i_t_cells x1 x2 x3
def wd_Row_remove (cI : ClassId) (n_t : Nat) (a_t a_t_k : Nat) (i_t_cells : (Int → Int)) : va_W := [(a_t, .inr (0, [.ref a_t_k])), (a_t_k, jk_W cI n_t i_t_cells)]
def fn_Row_remove_b3 : Nat → Int → (Int → Int) → Int → Int → Int → Int → Option ((Int → Int))
  | 0, _, _, _, _, _, _ => none
  | n + 1, n_t, t_cells, v1, v2, v3, v4 => jk_lts v4 (v3 - v2) ((fn_Row_get n_t t_cells (v2 + v4)).bind fun q21 => (fn_Row_set n_t t_cells (v1 + v4) q21).bind fun q24 => fn_Row_remove_b3 n n_t q24 v1 v2 v3 (v4 + 1)) (some t_cells)
def fn_Row_remove (n_t : Int) (i_t_cells : (Int → Int)) (x1 : Int) (x2 : Int) (x3 : Int) : Option ((Int → Int)) := fn_Row_remove_b3 jk_F n_t i_t_cells x1 x2 x3 0
def wd_Knots_power (cI : ClassId)  : va_W := []
def fn_Knots_power (x0 : Int) : Option (Int) := jk_eqs x0 0 (some 1) (jk_eqs x0 1 (some 10) (jk_eqs x0 2 (some 100) (jk_eqs x0 3 (some 1000) (jk_rg x0 (some 10000)))))
def wd_Knots_withoutLast (cI : ClassId)  : va_W := []
def fn_Knots_withoutLast_b4 : Nat → Int → Int → Int → Option (Int)
  | 0, _, _, _ => none
  | n + 1, v1, v2, v3 => jk_lts v3 v1 (jk_dv v2 10 (fn_Knots_withoutLast_b4 n v1 (v2 / 10) (v3 + 1))) (some v2)
def fn_Knots_withoutLast (x0 : Int) (x1 : Int) : Option (Int) := fn_Knots_withoutLast_b4 jk_F x1 x0 0
def wd_Knots_at (cI : ClassId)  : va_W := []
def fn_Knots_at (x0 : Int) (x1 : Int) : Option (Int) := (fn_Knots_withoutLast x0 x1).bind fun q2 => jk_dv q2 10 (some (q2 % 10))
def wd_Knots_sum (cI : ClassId)  : va_W := []
def fn_Knots_sum_b4 : Nat → Int → Int → Int → Option (Int)
  | 0, _, _, _ => none
  | n + 1, v0, v1, v2 => jk_lts v2 4 ((fn_Knots_at v0 v2).bind fun q12 => fn_Knots_sum_b4 n v0 (v1 + q12) (v2 + 1)) (some v1)
def fn_Knots_sum (x0 : Int) : Option (Int) := fn_Knots_sum_b4 jk_F x0 0 0
def wd_Knots_lose (cI : ClassId)  : va_W := []
def fn_Knots_lose (x0 : Int) (x1 : Int) : Option (Int) := (fn_Knots_withoutLast x0 x1).bind fun q2 => (fn_Knots_power x1).bind fun q6 => some (q2 * q6)
set_option maxHeartbeats 4000000 in
set_option maxRecDepth 20000 in
theorem ct_Row_get (l : Launch) (D : va_G) (Z : (Nat → Prop) → State → Heap → Prop) (sq : Nat → Nat) (hZ : jk_ZK Z sq) (cI cR : ClassId) {n_t : Nat} (hn_t : n_t < 2147483648) (a_t a_t_k : Nat) (i_t_cells : (Int → Int)) (x1 : Int) (q : Int) (hf : fn_Row_get (n_t : Int) i_t_cells x1 = some q) : jk_MI l D jk_cl (jk_ty cI cR) Z mn_Row_get (.code mn_Row_get mb_Row_get 2 (some .int) :: jk_WA) (jk_rm 0 0) [.ref a_t, jk_V x1] (wd_Row_get cI n_t a_t a_t_k i_t_cells) (wd_Row_get cI n_t a_t a_t_k i_t_cells) q := by
  intro sz
  refine jk_body (by decide +kernel) (fun p e s m args below meth c hsz hz hin C => ?_) (Nat.le_of_ble_eq_true rfl)
  subst hsz
  unfold fn_Row_get at hf
  refine jk_iload_n C rd_Row_get_0 (k := 1) rfl ?_
  refine jk_if_lt (tgt := 22) C rd_Row_get_1 (by decide) hf (fun _ hf => ?_) (fun _ hf => ?_)
  · refine jk_iconst C rd_Row_get_22 ?_
    cases hf
    exact jk_iret C rfl rd_Row_get_23 rfl
  · refine jk_iload_n C rd_Row_get_4 (k := 1) rfl ?_
    refine jk_aload_n C rd_Row_get_5 (k := 0) rfl ?_
    refine jk_get C in_Row (ci := 0) rfl 0 (by decide) tm_44 0 rfl rfl rd_Row_get_6 ?_
    refine jk_alen C 1 0 rfl rfl rd_Row_get_9 ?_
    refine jk_icmp_ge (tgt := 22) C rd_Row_get_10 (by decide) hf (fun _ hf => ?_) (fun _ hf => ?_)
    · refine jk_iconst C rd_Row_get_22 ?_
      cases hf
      exact jk_iret C rfl rd_Row_get_23 rfl
    · refine jk_aload_n C rd_Row_get_13 (k := 0) rfl ?_
      refine jk_get C in_Row (ci := 0) rfl 0 (by decide) tm_44 0 rfl rfl rd_Row_get_14 ?_
      refine jk_iload_n C rd_Row_get_17 (k := 1) rfl ?_
      refine jk_iald C 1 0 rfl rfl hn_t rd_Row_get_18 hf (fun hf => ?_)
      refine jk_goto (tgt := 23) C rd_Row_get_19 (by decide) ?_
      cases hf
      exact jk_iret C rfl rd_Row_get_23 rfl
set_option maxHeartbeats 4000000 in
set_option maxRecDepth 20000 in
theorem ct_Row_set (l : Launch) (D : va_G) (Z : (Nat → Prop) → State → Heap → Prop) (sq : Nat → Nat) (hZ : jk_ZK Z sq) (cI cR : ClassId) {n_t : Nat} (hn_t : n_t < 2147483648) (a_t a_t_k : Nat) (i_t_cells : (Int → Int)) (x1 : Int) (x2 : Int) (q : (Int → Int)) (hf : fn_Row_set (n_t : Int) i_t_cells x1 x2 = some q) : jk_MV l D jk_cl (jk_ty cI cR) Z mn_Row_set (.code mn_Row_set mb_Row_set 3 none :: jk_WA) (jk_rm 0 0) [.ref a_t, jk_V x1, jk_V x2] (wd_Row_set cI n_t a_t a_t_k i_t_cells) (wd_Row_set cI n_t a_t a_t_k q) := by
  intro sz
  refine jk_body (by decide +kernel) (fun p e s m args below meth c hsz hz hin C => ?_) (Nat.le_of_ble_eq_true rfl)
  subst hsz
  unfold fn_Row_set at hf
  refine jk_iload_n C rd_Row_set_0 (k := 1) rfl ?_
  refine jk_if_lt (tgt := 20) C rd_Row_set_1 (by decide) hf (fun _ hf => ?_) (fun _ hf => ?_)
  · cases hf
    exact jk_vret C rfl rd_Row_set_20 rfl
  · refine jk_iload_n C rd_Row_set_4 (k := 1) rfl ?_
    refine jk_aload_n C rd_Row_set_5 (k := 0) rfl ?_
    refine jk_get C in_Row (ci := 0) rfl 0 (by decide) tm_44 0 rfl rfl rd_Row_set_6 ?_
    refine jk_alen C 1 0 rfl rfl rd_Row_set_9 ?_
    refine jk_icmp_ge (tgt := 20) C rd_Row_set_10 (by decide) hf (fun _ hf => ?_) (fun _ hf => ?_)
    · cases hf
      exact jk_vret C rfl rd_Row_set_20 rfl
    · refine jk_aload_n C rd_Row_set_13 (k := 0) rfl ?_
      refine jk_get C in_Row (ci := 0) rfl 0 (by decide) tm_44 0 rfl rfl rd_Row_set_14 ?_
      refine jk_iload_n C rd_Row_set_17 (k := 1) rfl ?_
      refine jk_iload_n C rd_Row_set_18 (k := 2) rfl ?_
      refine jk_iast C 1 0 rfl rfl hn_t rd_Row_set_19 hf (ws' := wd_Row_set cI n_t a_t a_t_k (jk_up i_t_cells x1 x2)) rfl (fun hf => ?_)
      cases hf
      exact jk_vret C rfl rd_Row_set_20 rfl
set_option maxHeartbeats 4000000 in
set_option maxRecDepth 20000 in
theorem ct_Row_replace (l : Launch) (D : va_G) (Z : (Nat → Prop) → State → Heap → Prop) (sq : Nat → Nat) (hZ : jk_ZK Z sq) (cI cR : ClassId) {n_t : Nat} (hn_t : n_t < 2147483648) (a_t a_t_k : Nat) (i_t_cells : (Int → Int)) (x1 : Int) (x2 : Int) (q : Int × (Int → Int)) (hf : fn_Row_replace (n_t : Int) i_t_cells x1 x2 = some q) : jk_MI l D jk_cl (jk_ty cI cR) Z mn_Row_replace (.code mn_Row_replace mb_Row_replace 4 (some .int) :: jk_WA) (jk_rm 1 22) [.ref a_t, jk_V x1, jk_V x2] (wd_Row_replace cI n_t a_t a_t_k i_t_cells) (wd_Row_replace cI n_t a_t a_t_k q.2) q.1 := by
  intro sz
  refine jk_body (by decide +kernel) (fun p e s m args below meth c hsz hz hin C => ?_) (Nat.le_of_ble_eq_true rfl)
  subst hsz
  unfold fn_Row_replace at hf
  refine jk_aload_n C rd_Row_replace_0 (k := 0) rfl ?_
  refine jk_iload_n C rd_Row_replace_1 (k := 1) rfl ?_
  obtain ⟨q2, hq2, hf⟩ := jk_bind_h hf
  refine jk_callVi C hZ.1 hz (ct_Row_get l D Z sq hZ cI cR (n_t := n_t) hn_t a_t a_t_k i_t_cells x1 q2 hq2) tm_395 tm_292 tm_293 tm_3 tm_294 na_Row_get ⟨Nat.le_of_ble_eq_true rfl, Nat.le_of_ble_eq_true rfl⟩ rfl [0, 1] rfl rfl rfl (ws' := wd_Row_replace cI n_t a_t a_t_k i_t_cells) rfl 0 0 rfl rfl rfl (st := []) rfl (Nat.le_of_ble_eq_true rfl) rd_Row_replace_2 ?_ ⟨Nat.le_refl _, Nat.le_refl _⟩
  refine jk_istore_n C rd_Row_replace_5 (by decide) (lv' := [(3, jk_V q2), (0, .ref a_t), (1, jk_V x1), (2, jk_V x2)]) rfl ?_
  refine jk_aload_n C rd_Row_replace_6 (k := 1) rfl ?_
  refine jk_iload_n C rd_Row_replace_7 (k := 2) rfl ?_
  refine jk_iload_n C rd_Row_replace_8 (k := 3) rfl ?_
  obtain ⟨q9, hq9, hf⟩ := jk_bind_h hf
  refine jk_callVv C hZ.1 hz (ct_Row_set l D Z sq hZ cI cR (n_t := n_t) hn_t a_t a_t_k i_t_cells x1 x2 q9 hq9) tm_396 tm_257 tm_258 tm_3 tm_259 na_Row_set ⟨Nat.le_of_ble_eq_true rfl, Nat.le_of_ble_eq_true rfl⟩ rfl [0, 1] rfl rfl rfl (ws' := wd_Row_replace cI n_t a_t a_t_k q9) rfl 0 0 rfl rfl rfl (st := []) rfl (Nat.le_of_ble_eq_true rfl) rd_Row_replace_9 ?_ ⟨Nat.le_refl _, Nat.le_refl _⟩
  refine jk_iload_n C rd_Row_replace_12 (k := 0) rfl ?_
  cases hf
  exact jk_iret C rfl rd_Row_replace_13 rfl
set_option maxHeartbeats 4000000 in
set_option maxRecDepth 20000 in
theorem ct_Row_copyFrom (l : Launch) (D : va_G) (Z : (Nat → Prop) → State → Heap → Prop) (sq : Nat → Nat) (hZ : jk_ZK Z sq) (cI cR : ClassId) {n_a : Nat} (hn_a : n_a < 2147483648) {n_t : Nat} (hn_t : n_t < 2147483648) (a_t a_t_k a_a a_a_k : Nat) (i_t_cells : (Int → Int)) (i_a_cells : (Int → Int)) (q : (Int → Int)) (hf : fn_Row_copyFrom (n_a : Int) (n_t : Int) i_t_cells i_a_cells = some q) : jk_MV l D jk_cl (jk_ty cI cR) Z mn_Row_copyFrom (.code mn_Row_copyFrom mb_Row_copyFrom 3 none :: jk_WA) (jk_rm 1 21) [.ref a_t, .ref a_a] (wd_Row_copyFrom cI n_a n_t a_t a_t_k a_a a_a_k i_t_cells i_a_cells) (wd_Row_copyFrom cI n_a n_t a_t a_t_k a_a a_a_k q i_a_cells) := by
  intro sz
  refine jk_body (by decide +kernel) (fun p e s m args below meth c hsz hz hin C => ?_) (Nat.le_of_ble_eq_true rfl)
  subst hsz
  unfold fn_Row_copyFrom at hf
  have bk_2 : ∀ (n : Nat) (t_cells : (Int → Int)) (v2 : Int), fn_Row_copyFrom_b2 n (n_a : Int) (n_t : Int) t_cells i_a_cells v2 = some q → jk_J p l e (jk_rm 1 21) s m args below meth c 0 0 (jk_QV below D jk_cl (jk_ty cI cR) (wd_Row_copyFrom cI n_a n_t a_t a_t_k a_a a_a_k i_t_cells i_a_cells) (wd_Row_copyFrom cI n_a n_t a_t a_t_k a_a a_a_k q i_a_cells) args s) D jk_cl (va_A (wd_Row_copyFrom cI n_a n_t a_t a_t_k a_a a_a_k i_t_cells i_a_cells) s.heap.size) 3 (wd_Row_copyFrom cI n_a n_t a_t a_t_k a_a a_a_k t_cells i_a_cells) [(0, .ref a_t), (1, .ref a_a), (2, jk_V v2)] 2 [] := by
    intro n
    induction n with
    | zero => intro t_cells v2 hf; exact nomatch (show none = some q from hf)
    | succ n ih =>
      intro t_cells v2 hf
      rw [fn_Row_copyFrom_b2] at hf
      refine jk_iload_n C rd_Row_copyFrom_2 (k := 2) rfl ?_
      refine jk_aload_n C rd_Row_copyFrom_3 (k := 0) rfl ?_
      refine jk_get C in_Row (ci := 0) rfl 0 (by decide) tm_44 0 rfl rfl rd_Row_copyFrom_4 ?_
      refine jk_alen C 1 0 rfl rfl rd_Row_copyFrom_7 ?_
      refine jk_icmp_ge (tgt := 28) C rd_Row_copyFrom_8 (by decide) hf (fun _ hf => ?_) (fun _ hf => ?_)
      · cases hf
        exact jk_vret C rfl rd_Row_copyFrom_28 rfl
      · refine jk_aload_n C rd_Row_copyFrom_11 (k := 0) rfl ?_
        refine jk_get C in_Row (ci := 0) rfl 0 (by decide) tm_44 0 rfl rfl rd_Row_copyFrom_12 ?_
        refine jk_iload_n C rd_Row_copyFrom_15 (k := 2) rfl ?_
        refine jk_aload_n C rd_Row_copyFrom_16 (k := 1) rfl ?_
        refine jk_iload_n C rd_Row_copyFrom_17 (k := 2) rfl ?_
        obtain ⟨q18, hq18, hf⟩ := jk_bind_h hf
        refine jk_callVi C hZ.1 hz (ct_Row_get l D Z sq hZ cI cR (n_t := n_a) hn_a a_a a_a_k i_a_cells v2 q18 hq18) tm_395 tm_292 tm_293 tm_3 tm_294 na_Row_get ⟨Nat.le_of_ble_eq_true rfl, Nat.le_of_ble_eq_true rfl⟩ rfl [2, 3] rfl rfl rfl (ws' := wd_Row_copyFrom cI n_a n_t a_t a_t_k a_a a_a_k t_cells i_a_cells) rfl 2 0 rfl rfl rfl (st := [jk_V v2, .ref a_t_k]) rfl (Nat.le_of_ble_eq_true rfl) rd_Row_copyFrom_18 ?_ ⟨Nat.le_refl _, Nat.le_refl _⟩
        refine jk_iast C 1 0 rfl rfl hn_t rd_Row_copyFrom_21 hf (ws' := wd_Row_copyFrom cI n_a n_t a_t a_t_k a_a a_a_k (jk_up t_cells v2 q18) i_a_cells) rfl (fun hf => ?_)
        refine jk_iinc C rd_Row_copyFrom_22 (k := 2) rfl (by decide) (lv' := [(2, jk_V (v2 + 1)), (0, .ref a_t), (1, .ref a_a)]) rfl ?_
        refine jk_goto (tgt := 2) C rd_Row_copyFrom_25 (by decide) ?_
        refine jk_lv (lv' := [(0, .ref a_t), (1, .ref a_a), (2, jk_V (v2 + 1))]) [1, 2, 0] rfl ?_
        exact ih (jk_up t_cells v2 q18) (v2 + 1) hf
  refine jk_iconst C rd_Row_copyFrom_0 ?_
  refine jk_istore_n C rd_Row_copyFrom_1 (by decide) (lv' := [(2, jk_V 0), (0, .ref a_t), (1, .ref a_a)]) rfl ?_
  refine jk_lv (lv' := [(0, .ref a_t), (1, .ref a_a), (2, jk_V 0)]) [1, 2, 0] rfl ?_
  exact bk_2 jk_F i_t_cells 0 hf
set_option maxHeartbeats 4000000 in
set_option maxRecDepth 20000 in
theorem ct_Row_insert (l : Launch) (D : va_G) (Z : (Nat → Prop) → State → Heap → Prop) (sq : Nat → Nat) (hZ : jk_ZK Z sq) (cI cR : ClassId) {n_t : Nat} (hn_t : n_t < 2147483648) (a_t a_t_k : Nat) (i_t_cells : (Int → Int)) (x1 : Int) (x2 : Int) (x3 : Int) (q : (Int → Int)) (hf : fn_Row_insert (n_t : Int) i_t_cells x1 x2 x3 = some q) : jk_MV l D jk_cl (jk_ty cI cR) Z mn_Row_insert (.code mn_Row_insert mb_Row_insert 5 none :: jk_WA) (jk_rm 1 22) [.ref a_t, jk_V x1, jk_V x2, jk_V x3] (wd_Row_insert cI n_t a_t a_t_k i_t_cells) (wd_Row_insert cI n_t a_t a_t_k q) := by
  intro sz
  refine jk_body (by decide +kernel) (fun p e s m args below meth c hsz hz hin C => ?_) (Nat.le_of_ble_eq_true rfl)
  subst hsz
  unfold fn_Row_insert at hf
  have bk_3 : ∀ (n : Nat) (t_cells : (Int → Int)) (v1 : Int) (v2 : Int) (v4 : Int), fn_Row_insert_b3 n (n_t : Int) t_cells v1 v2 v4 = some q → jk_J p l e (jk_rm 1 22) s m args below meth c 0 0 (jk_QV below D jk_cl (jk_ty cI cR) (wd_Row_insert cI n_t a_t a_t_k i_t_cells) (wd_Row_insert cI n_t a_t a_t_k q) args s) D jk_cl (va_A (wd_Row_insert cI n_t a_t a_t_k i_t_cells) s.heap.size) 5 (wd_Row_insert cI n_t a_t a_t_k t_cells) [(0, .ref a_t), (1, jk_V v1), (2, jk_V v2), (4, jk_V v4)] 3 [] := by
    intro n
    induction n with
    | zero => intro t_cells v1 v2 v4 hf; exact nomatch (show none = some q from hf)
    | succ n ih =>
      intro t_cells v1 v2 v4 hf
      rw [fn_Row_insert_b3] at hf
      refine jk_iload C rd_Row_insert_3 (k := 3) rfl ?_
      refine jk_iload_n C rd_Row_insert_5 (k := 1) rfl ?_
      refine jk_icmp_le (tgt := 29) C rd_Row_insert_6 (by decide) hf (fun _ hf => ?_) (fun _ hf => ?_)
      · refine jk_aload_n C rd_Row_insert_29 (k := 0) rfl ?_
        refine jk_iload_n C rd_Row_insert_30 (k := 1) rfl ?_
        refine jk_iload_n C rd_Row_insert_31 (k := 2) rfl ?_
        obtain ⟨q32, hq32, hf⟩ := jk_bind_h hf
        refine jk_callVv C hZ.1 hz (ct_Row_set l D Z sq hZ cI cR (n_t := n_t) hn_t a_t a_t_k t_cells v1 v2 q32 hq32) tm_396 tm_257 tm_258 tm_3 tm_259 na_Row_set ⟨Nat.le_of_ble_eq_true rfl, Nat.le_of_ble_eq_true rfl⟩ rfl [0, 1] rfl rfl rfl (ws' := wd_Row_insert cI n_t a_t a_t_k q32) rfl 0 0 rfl rfl rfl (st := []) rfl (Nat.le_of_ble_eq_true rfl) rd_Row_insert_32 ?_ ⟨Nat.le_refl _, Nat.le_refl _⟩
        cases hf
        exact jk_vret C rfl rd_Row_insert_35 rfl
      · refine jk_aload_n C rd_Row_insert_9 (k := 0) rfl ?_
        refine jk_iload C rd_Row_insert_10 (k := 3) rfl ?_
        refine jk_aload_n C rd_Row_insert_12 (k := 0) rfl ?_
        refine jk_iload C rd_Row_insert_13 (k := 3) rfl ?_
        refine jk_iconst C rd_Row_insert_15 ?_
        refine jk_isub C rd_Row_insert_16 ?_
        obtain ⟨q17, hq17, hf⟩ := jk_bind_h hf
        refine jk_callVi C hZ.1 hz (ct_Row_get l D Z sq hZ cI cR (n_t := n_t) hn_t a_t a_t_k t_cells (v4 - 1) q17 hq17) tm_395 tm_292 tm_293 tm_3 tm_294 na_Row_get ⟨Nat.le_of_ble_eq_true rfl, Nat.le_of_ble_eq_true rfl⟩ rfl [0, 1] rfl rfl rfl (ws' := wd_Row_insert cI n_t a_t a_t_k t_cells) rfl 0 0 rfl rfl rfl (st := [jk_V v4, .ref a_t]) rfl (Nat.le_of_ble_eq_true rfl) rd_Row_insert_17 ?_ ⟨Nat.le_refl _, Nat.le_refl _⟩
        obtain ⟨q20, hq20, hf⟩ := jk_bind_h hf
        refine jk_callVv C hZ.1 hz (ct_Row_set l D Z sq hZ cI cR (n_t := n_t) hn_t a_t a_t_k t_cells v4 q17 q20 hq20) tm_396 tm_257 tm_258 tm_3 tm_259 na_Row_set ⟨Nat.le_of_ble_eq_true rfl, Nat.le_of_ble_eq_true rfl⟩ rfl [0, 1] rfl rfl rfl (ws' := wd_Row_insert cI n_t a_t a_t_k q20) rfl 0 0 rfl rfl rfl (st := []) rfl (Nat.le_of_ble_eq_true rfl) rd_Row_insert_20 ?_ ⟨Nat.le_refl _, Nat.le_refl _⟩
        refine jk_iinc C rd_Row_insert_23 (k := 3) rfl (by decide) (lv' := [(4, jk_V (v4 + (-1))), (0, .ref a_t), (1, jk_V v1), (2, jk_V v2)]) rfl ?_
        refine jk_goto (tgt := 3) C rd_Row_insert_26 (by decide) ?_
        refine jk_lv (lv' := [(0, .ref a_t), (1, jk_V v1), (2, jk_V v2), (4, jk_V (v4 + (-1)))]) [1, 2, 3, 0] rfl ?_
        exact ih q20 v1 v2 (v4 + (-1)) hf
  refine jk_iload_n C rd_Row_insert_0 (k := 3) rfl ?_
  refine jk_istore C rd_Row_insert_1 (by decide) (lv' := [(4, jk_V x3), (0, .ref a_t), (1, jk_V x1), (2, jk_V x2), (3, jk_V x3)]) rfl ?_
  refine jk_lv (lv' := [(0, .ref a_t), (1, jk_V x1), (2, jk_V x2), (4, jk_V x3)]) [1, 2, 3, 0] rfl ?_
  exact bk_3 jk_F i_t_cells x1 x2 x3 hf
set_option maxHeartbeats 4000000 in
set_option maxRecDepth 20000 in
theorem ct_Row_remove (l : Launch) (D : va_G) (Z : (Nat → Prop) → State → Heap → Prop) (sq : Nat → Nat) (hZ : jk_ZK Z sq) (cI cR : ClassId) {n_t : Nat} (hn_t : n_t < 2147483648) (a_t a_t_k : Nat) (i_t_cells : (Int → Int)) (x1 : Int) (x2 : Int) (x3 : Int) (q : (Int → Int)) (hf : fn_Row_remove (n_t : Int) i_t_cells x1 x2 x3 = some q) : jk_MV l D jk_cl (jk_ty cI cR) Z mn_Row_remove (.code mn_Row_remove mb_Row_remove 5 none :: jk_WA) (jk_rm 1 22) [.ref a_t, jk_V x1, jk_V x2, jk_V x3] (wd_Row_remove cI n_t a_t a_t_k i_t_cells) (wd_Row_remove cI n_t a_t a_t_k q) := by
  intro sz
  refine jk_body (by decide +kernel) (fun p e s m args below meth c hsz hz hin C => ?_) (Nat.le_of_ble_eq_true rfl)
  subst hsz
  unfold fn_Row_remove at hf
  have bk_3 : ∀ (n : Nat) (t_cells : (Int → Int)) (v1 : Int) (v2 : Int) (v3 : Int) (v4 : Int), fn_Row_remove_b3 n (n_t : Int) t_cells v1 v2 v3 v4 = some q → jk_J p l e (jk_rm 1 22) s m args below meth c 0 0 (jk_QV below D jk_cl (jk_ty cI cR) (wd_Row_remove cI n_t a_t a_t_k i_t_cells) (wd_Row_remove cI n_t a_t a_t_k q) args s) D jk_cl (va_A (wd_Row_remove cI n_t a_t a_t_k i_t_cells) s.heap.size) 5 (wd_Row_remove cI n_t a_t a_t_k t_cells) [(0, .ref a_t), (1, jk_V v1), (2, jk_V v2), (3, jk_V v3), (4, jk_V v4)] 3 [] := by
    intro n
    induction n with
    | zero => intro t_cells v1 v2 v3 v4 hf; exact nomatch (show none = some q from hf)
    | succ n ih =>
      intro t_cells v1 v2 v3 v4 hf
      rw [fn_Row_remove_b3] at hf
      refine jk_iload C rd_Row_remove_3 (k := 4) rfl ?_
      refine jk_iload_n C rd_Row_remove_5 (k := 3) rfl ?_
      refine jk_iload_n C rd_Row_remove_6 (k := 2) rfl ?_
      refine jk_isub C rd_Row_remove_7 ?_
      refine jk_icmp_ge (tgt := 33) C rd_Row_remove_8 (by decide) hf (fun _ hf => ?_) (fun _ hf => ?_)
      · cases hf
        exact jk_vret C rfl rd_Row_remove_33 rfl
      · refine jk_aload_n C rd_Row_remove_11 (k := 0) rfl ?_
        refine jk_iload_n C rd_Row_remove_12 (k := 1) rfl ?_
        refine jk_iload C rd_Row_remove_13 (k := 4) rfl ?_
        refine jk_iadd C rd_Row_remove_15 ?_
        refine jk_aload_n C rd_Row_remove_16 (k := 0) rfl ?_
        refine jk_iload_n C rd_Row_remove_17 (k := 2) rfl ?_
        refine jk_iload C rd_Row_remove_18 (k := 4) rfl ?_
        refine jk_iadd C rd_Row_remove_20 ?_
        obtain ⟨q21, hq21, hf⟩ := jk_bind_h hf
        refine jk_callVi C hZ.1 hz (ct_Row_get l D Z sq hZ cI cR (n_t := n_t) hn_t a_t a_t_k t_cells (v2 + v4) q21 hq21) tm_395 tm_292 tm_293 tm_3 tm_294 na_Row_get ⟨Nat.le_of_ble_eq_true rfl, Nat.le_of_ble_eq_true rfl⟩ rfl [0, 1] rfl rfl rfl (ws' := wd_Row_remove cI n_t a_t a_t_k t_cells) rfl 0 0 rfl rfl rfl (st := [jk_V (v1 + v4), .ref a_t]) rfl (Nat.le_of_ble_eq_true rfl) rd_Row_remove_21 ?_ ⟨Nat.le_refl _, Nat.le_refl _⟩
        obtain ⟨q24, hq24, hf⟩ := jk_bind_h hf
        refine jk_callVv C hZ.1 hz (ct_Row_set l D Z sq hZ cI cR (n_t := n_t) hn_t a_t a_t_k t_cells (v1 + v4) q21 q24 hq24) tm_396 tm_257 tm_258 tm_3 tm_259 na_Row_set ⟨Nat.le_of_ble_eq_true rfl, Nat.le_of_ble_eq_true rfl⟩ rfl [0, 1] rfl rfl rfl (ws' := wd_Row_remove cI n_t a_t a_t_k q24) rfl 0 0 rfl rfl rfl (st := []) rfl (Nat.le_of_ble_eq_true rfl) rd_Row_remove_24 ?_ ⟨Nat.le_refl _, Nat.le_refl _⟩
        refine jk_iinc C rd_Row_remove_27 (k := 4) rfl (by decide) (lv' := [(4, jk_V (v4 + 1)), (0, .ref a_t), (1, jk_V v1), (2, jk_V v2), (3, jk_V v3)]) rfl ?_
        refine jk_goto (tgt := 3) C rd_Row_remove_30 (by decide) ?_
        refine jk_lv (lv' := [(0, .ref a_t), (1, jk_V v1), (2, jk_V v2), (3, jk_V v3), (4, jk_V (v4 + 1))]) [1, 2, 3, 4, 0] rfl ?_
        exact ih q24 v1 v2 v3 (v4 + 1) hf
  refine jk_iconst C rd_Row_remove_0 ?_
  refine jk_istore C rd_Row_remove_1 (by decide) (lv' := [(4, jk_V 0), (0, .ref a_t), (1, jk_V x1), (2, jk_V x2), (3, jk_V x3)]) rfl ?_
  refine jk_lv (lv' := [(0, .ref a_t), (1, jk_V x1), (2, jk_V x2), (3, jk_V x3), (4, jk_V 0)]) [1, 2, 3, 4, 0] rfl ?_
  exact bk_3 jk_F i_t_cells x1 x2 x3 0 hf
set_option maxHeartbeats 4000000 in
set_option maxRecDepth 20000 in
theorem ct_Knots_power (l : Launch) (D : va_G) (Z : (Nat → Prop) → State → Heap → Prop) (sq : Nat → Nat) (hZ : jk_ZK Z sq) (cI cR : ClassId) (x0 : Int) (q : Int) (hf : fn_Knots_power x0 = some q) : jk_MI l D jk_cl (jk_ty cI cR) Z mn_Knots_power (.code mn_Knots_power mb_Knots_power 1 (some .int) :: jk_WA) (jk_rm 0 0) [jk_V x0] (wd_Knots_power cI) (wd_Knots_power cI) q := by
  intro sz
  refine jk_body (by decide +kernel) (fun p e s m args below meth c hsz hz hin C => ?_) (Nat.le_of_ble_eq_true rfl)
  subst hsz
  unfold fn_Knots_power at hf
  refine jk_iload_n C rd_Knots_power_0 (k := 0) rfl ?_
  refine jk_eqs_c hf (fun hx hf => ?_) (fun hx0 hf => ?_)
  · refine jk_tabIn (off := 31) (tgt := 32) C rd_Knots_power_1 (k := 0) hx (by decide +kernel) (by decide) ?_
    refine jk_iconst C rd_Knots_power_32 ?_
    cases hf
    exact jk_iret C rfl rd_Knots_power_33 rfl
  refine jk_eqs_c hf (fun hx hf => ?_) (fun hx1 hf => ?_)
  · refine jk_tabIn (off := 33) (tgt := 34) C rd_Knots_power_1 (k := 1) hx (by decide +kernel) (by decide) ?_
    refine jk_bipush C rd_Knots_power_34 (by decide +kernel) ?_
    cases hf
    exact jk_iret C rfl rd_Knots_power_36 rfl
  refine jk_eqs_c hf (fun hx hf => ?_) (fun hx2 hf => ?_)
  · refine jk_tabIn (off := 36) (tgt := 37) C rd_Knots_power_1 (k := 2) hx (by decide +kernel) (by decide) ?_
    refine jk_bipush C rd_Knots_power_37 (by decide +kernel) ?_
    cases hf
    exact jk_iret C rfl rd_Knots_power_39 rfl
  refine jk_eqs_c hf (fun hx hf => ?_) (fun hx3 hf => ?_)
  · refine jk_tabIn (off := 39) (tgt := 40) C rd_Knots_power_1 (k := 3) hx (by decide +kernel) (by decide) ?_
    refine jk_sipush C rd_Knots_power_40 (by decide +kernel) ?_
    cases hf
    exact jk_iret C rfl rd_Knots_power_43 rfl
  refine jk_tabOut (tgt := 44) C rd_Knots_power_1 (jk_rg_h hf).1 (by omega) (by decide) ?_
  replace hf := (jk_rg_h hf).2
  refine jk_sipush C rd_Knots_power_44 (by decide +kernel) ?_
  cases hf
  exact jk_iret C rfl rd_Knots_power_47 rfl
set_option maxHeartbeats 4000000 in
set_option maxRecDepth 20000 in
theorem ct_Knots_withoutLast (l : Launch) (D : va_G) (Z : (Nat → Prop) → State → Heap → Prop) (sq : Nat → Nat) (hZ : jk_ZK Z sq) (cI cR : ClassId) (x0 : Int) (x1 : Int) (q : Int) (hf : fn_Knots_withoutLast x0 x1 = some q) : jk_MI l D jk_cl (jk_ty cI cR) Z mn_Knots_withoutLast (.code mn_Knots_withoutLast mb_Knots_withoutLast 4 (some .int) :: jk_WA) (jk_rm 0 0) [jk_V x0, jk_V x1] (wd_Knots_withoutLast cI) (wd_Knots_withoutLast cI) q := by
  intro sz
  refine jk_body (by decide +kernel) (fun p e s m args below meth c hsz hz hin C => ?_) (Nat.le_of_ble_eq_true rfl)
  subst hsz
  unfold fn_Knots_withoutLast at hf
  have bk_4 : ∀ (n : Nat) (v1 : Int) (v2 : Int) (v3 : Int), fn_Knots_withoutLast_b4 n v1 v2 v3 = some q → jk_J p l e (jk_rm 0 0) s m args below meth c 0 0 (jk_QI below D jk_cl (jk_ty cI cR) (wd_Knots_withoutLast cI) (wd_Knots_withoutLast cI) args s q) D jk_cl (va_A (wd_Knots_withoutLast cI) s.heap.size) 4 (wd_Knots_withoutLast cI) [(1, jk_V v1), (2, jk_V v2), (3, jk_V v3)] 4 [] := by
    intro n
    induction n with
    | zero => intro v1 v2 v3 hf; exact nomatch (show none = some q from hf)
    | succ n ih =>
      intro v1 v2 v3 hf
      rw [fn_Knots_withoutLast_b4] at hf
      refine jk_iload_n C rd_Knots_withoutLast_4 (k := 2) rfl ?_
      refine jk_iload_n C rd_Knots_withoutLast_5 (k := 0) rfl ?_
      refine jk_icmp_ge (tgt := 20) C rd_Knots_withoutLast_6 (by decide) hf (fun _ hf => ?_) (fun _ hf => ?_)
      · refine jk_iload_n C rd_Knots_withoutLast_20 (k := 1) rfl ?_
        cases hf
        exact jk_iret C rfl rd_Knots_withoutLast_21 rfl
      · refine jk_iload_n C rd_Knots_withoutLast_9 (k := 1) rfl ?_
        refine jk_bipush C rd_Knots_withoutLast_10 (by decide +kernel) ?_
        refine jk_idiv C rd_Knots_withoutLast_12 hf (fun hf => ?_)
        refine jk_istore_n C rd_Knots_withoutLast_13 (by decide) (lv' := [(2, jk_V (v2 / 10)), (1, jk_V v1), (3, jk_V v3)]) rfl ?_
        refine jk_iinc C rd_Knots_withoutLast_14 (k := 2) rfl (by decide) (lv' := [(3, jk_V (v3 + 1)), (2, jk_V (v2 / 10)), (1, jk_V v1)]) rfl ?_
        refine jk_goto (tgt := 4) C rd_Knots_withoutLast_17 (by decide) ?_
        refine jk_lv (lv' := [(1, jk_V v1), (2, jk_V (v2 / 10)), (3, jk_V (v3 + 1))]) [2, 1, 0] rfl ?_
        exact ih v1 (v2 / 10) (v3 + 1) hf
  refine jk_iload_n C rd_Knots_withoutLast_0 (k := 0) rfl ?_
  refine jk_istore_n C rd_Knots_withoutLast_1 (by decide) (lv' := [(2, jk_V x0), (0, jk_V x0), (1, jk_V x1)]) rfl ?_
  refine jk_iconst C rd_Knots_withoutLast_2 ?_
  refine jk_istore_n C rd_Knots_withoutLast_3 (by decide) (lv' := [(3, jk_V 0), (2, jk_V x0), (0, jk_V x0), (1, jk_V x1)]) rfl ?_
  refine jk_lv (lv' := [(1, jk_V x1), (2, jk_V x0), (3, jk_V 0)]) [3, 1, 0] rfl ?_
  exact bk_4 jk_F x1 x0 0 hf
set_option maxHeartbeats 4000000 in
set_option maxRecDepth 20000 in
theorem ct_Knots_at (l : Launch) (D : va_G) (Z : (Nat → Prop) → State → Heap → Prop) (sq : Nat → Nat) (hZ : jk_ZK Z sq) (cI cR : ClassId) (x0 : Int) (x1 : Int) (q : Int) (hf : fn_Knots_at x0 x1 = some q) : jk_MI l D jk_cl (jk_ty cI cR) Z mn_Knots_at (.code mn_Knots_at mb_Knots_at 2 (some .int) :: jk_WA) (jk_rm 1 23) [jk_V x0, jk_V x1] (wd_Knots_at cI) (wd_Knots_at cI) q := by
  intro sz
  refine jk_body (by decide +kernel) (fun p e s m args below meth c hsz hz hin C => ?_) (Nat.le_of_ble_eq_true rfl)
  subst hsz
  unfold fn_Knots_at at hf
  refine jk_iload_n C rd_Knots_at_0 (k := 0) rfl ?_
  refine jk_iload_n C rd_Knots_at_1 (k := 1) rfl ?_
  obtain ⟨q2, hq2, hf⟩ := jk_bind_h hf
  refine jk_callSi C hZ.1 hz (ct_Knots_withoutLast l D Z sq hZ cI cR x0 x1 q2 hq2) tm_411 tm_412 tm_14 tm_413 na_Knots_withoutLast ⟨Nat.le_of_ble_eq_true rfl, Nat.le_of_ble_eq_true rfl⟩ rfl [] rfl rfl rfl (ws' := wd_Knots_at cI) rfl (st := []) rfl (Nat.le_of_ble_eq_true rfl) rd_Knots_at_2 ?_ ⟨Nat.le_refl _, Nat.le_refl _⟩
  refine jk_bipush C rd_Knots_at_5 (by decide +kernel) ?_
  refine jk_irem C rd_Knots_at_7 hf (fun hf => ?_)
  cases hf
  exact jk_iret C rfl rd_Knots_at_8 rfl
set_option maxHeartbeats 4000000 in
set_option maxRecDepth 20000 in
theorem ct_Knots_sum (l : Launch) (D : va_G) (Z : (Nat → Prop) → State → Heap → Prop) (sq : Nat → Nat) (hZ : jk_ZK Z sq) (cI cR : ClassId) (x0 : Int) (q : Int) (hf : fn_Knots_sum x0 = some q) : jk_MI l D jk_cl (jk_ty cI cR) Z mn_Knots_sum (.code mn_Knots_sum mb_Knots_sum 3 (some .int) :: jk_WA) (jk_rm 2 44) [jk_V x0] (wd_Knots_sum cI) (wd_Knots_sum cI) q := by
  intro sz
  refine jk_body (by decide +kernel) (fun p e s m args below meth c hsz hz hin C => ?_) (Nat.le_of_ble_eq_true rfl)
  subst hsz
  unfold fn_Knots_sum at hf
  have bk_4 : ∀ (n : Nat) (v0 : Int) (v1 : Int) (v2 : Int), fn_Knots_sum_b4 n v0 v1 v2 = some q → jk_J p l e (jk_rm 2 44) s m args below meth c 0 0 (jk_QI below D jk_cl (jk_ty cI cR) (wd_Knots_sum cI) (wd_Knots_sum cI) args s q) D jk_cl (va_A (wd_Knots_sum cI) s.heap.size) 3 (wd_Knots_sum cI) [(0, jk_V v0), (1, jk_V v1), (2, jk_V v2)] 4 [] := by
    intro n
    induction n with
    | zero => intro v0 v1 v2 hf; exact nomatch (show none = some q from hf)
    | succ n ih =>
      intro v0 v1 v2 hf
      rw [fn_Knots_sum_b4] at hf
      refine jk_iload_n C rd_Knots_sum_4 (k := 2) rfl ?_
      refine jk_iconst C rd_Knots_sum_5 ?_
      refine jk_icmp_ge (tgt := 23) C rd_Knots_sum_6 (by decide) hf (fun _ hf => ?_) (fun _ hf => ?_)
      · refine jk_iload_n C rd_Knots_sum_23 (k := 1) rfl ?_
        cases hf
        exact jk_iret C rfl rd_Knots_sum_24 rfl
      · refine jk_iload_n C rd_Knots_sum_9 (k := 1) rfl ?_
        refine jk_iload_n C rd_Knots_sum_10 (k := 0) rfl ?_
        refine jk_iload_n C rd_Knots_sum_11 (k := 2) rfl ?_
        obtain ⟨q12, hq12, hf⟩ := jk_bind_h hf
        refine jk_callSi C hZ.1 hz (ct_Knots_at l D Z sq hZ cI cR v0 v2 q12 hq12) tm_408 tm_409 tm_14 tm_410 na_Knots_at ⟨Nat.le_of_ble_eq_true rfl, Nat.le_of_ble_eq_true rfl⟩ rfl [] rfl rfl rfl (ws' := wd_Knots_sum cI) rfl (st := [jk_V v1]) rfl (Nat.le_of_ble_eq_true rfl) rd_Knots_sum_12 ?_ ⟨Nat.le_refl _, Nat.le_refl _⟩
        refine jk_iadd C rd_Knots_sum_15 ?_
        refine jk_istore_n C rd_Knots_sum_16 (by decide) (lv' := [(1, jk_V (v1 + q12)), (0, jk_V v0), (2, jk_V v2)]) rfl ?_
        refine jk_iinc C rd_Knots_sum_17 (k := 2) rfl (by decide) (lv' := [(2, jk_V (v2 + 1)), (1, jk_V (v1 + q12)), (0, jk_V v0)]) rfl ?_
        refine jk_goto (tgt := 4) C rd_Knots_sum_20 (by decide) ?_
        refine jk_lv (lv' := [(0, jk_V v0), (1, jk_V (v1 + q12)), (2, jk_V (v2 + 1))]) [2, 1, 0] rfl ?_
        exact ih v0 (v1 + q12) (v2 + 1) hf
  refine jk_iconst C rd_Knots_sum_0 ?_
  refine jk_istore_n C rd_Knots_sum_1 (by decide) (lv' := [(1, jk_V 0), (0, jk_V x0)]) rfl ?_
  refine jk_iconst C rd_Knots_sum_2 ?_
  refine jk_istore_n C rd_Knots_sum_3 (by decide) (lv' := [(2, jk_V 0), (1, jk_V 0), (0, jk_V x0)]) rfl ?_
  refine jk_lv (lv' := [(0, jk_V x0), (1, jk_V 0), (2, jk_V 0)]) [2, 1, 0] rfl ?_
  exact bk_4 jk_F x0 0 0 hf
set_option maxHeartbeats 4000000 in
set_option maxRecDepth 20000 in
theorem ct_Knots_lose (l : Launch) (D : va_G) (Z : (Nat → Prop) → State → Heap → Prop) (sq : Nat → Nat) (hZ : jk_ZK Z sq) (cI cR : ClassId) (x0 : Int) (x1 : Int) (q : Int) (hf : fn_Knots_lose x0 x1 = some q) : jk_MI l D jk_cl (jk_ty cI cR) Z mn_Knots_lose (.code mn_Knots_lose mb_Knots_lose 2 (some .int) :: jk_WA) (jk_rm 1 23) [jk_V x0, jk_V x1] (wd_Knots_lose cI) (wd_Knots_lose cI) q := by
  intro sz
  refine jk_body (by decide +kernel) (fun p e s m args below meth c hsz hz hin C => ?_) (Nat.le_of_ble_eq_true rfl)
  subst hsz
  unfold fn_Knots_lose at hf
  refine jk_iload_n C rd_Knots_lose_0 (k := 0) rfl ?_
  refine jk_iload_n C rd_Knots_lose_1 (k := 1) rfl ?_
  obtain ⟨q2, hq2, hf⟩ := jk_bind_h hf
  refine jk_callSi C hZ.1 hz (ct_Knots_withoutLast l D Z sq hZ cI cR x0 x1 q2 hq2) tm_411 tm_412 tm_14 tm_413 na_Knots_withoutLast ⟨Nat.le_of_ble_eq_true rfl, Nat.le_of_ble_eq_true rfl⟩ rfl [] rfl rfl rfl (ws' := wd_Knots_lose cI) rfl (st := []) rfl (Nat.le_of_ble_eq_true rfl) rd_Knots_lose_2 ?_ ⟨Nat.le_refl _, Nat.le_refl _⟩
  refine jk_iload_n C rd_Knots_lose_5 (k := 1) rfl ?_
  obtain ⟨q6, hq6, hf⟩ := jk_bind_h hf
  refine jk_callSi C hZ.1 hz (ct_Knots_power l D Z sq hZ cI cR x1 q6 hq6) tm_417 tm_418 tm_14 tm_419 na_Knots_power ⟨Nat.le_of_ble_eq_true rfl, Nat.le_of_ble_eq_true rfl⟩ rfl [] rfl rfl rfl (ws' := wd_Knots_lose cI) rfl (st := [jk_V q2]) rfl (Nat.le_of_ble_eq_true rfl) rd_Knots_lose_6 ?_ ⟨Nat.le_refl _, Nat.le_refl _⟩
  refine jk_imul C rd_Knots_lose_9 ?_
  cases hf
  exact jk_iret C rfl rd_Knots_lose_10 rfl
