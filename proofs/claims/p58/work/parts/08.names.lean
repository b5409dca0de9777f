def tb_Row : u_T := fun k => match k with
  | _ => ("KnotReader$Row", "cells", "[I", true)
def tf_Row : Nat → FieldType := fun k => match k with
  | _ => .array (.int)
theorem nm_Row : ∀ a, a < 1 → ∀ b, b < 1 → a ≠ b → (tb_Row a).2.1 ≠ (tb_Row b).2.1 := by decide +kernel
theorem ty_Row : ∀ k, k < 1 → parseFieldDescriptor (tb_Row k).2.2.1 = some (tf_Row k) := by decide +kernel
theorem in_Row : ∀ w ∈ u_ws "KnotReader$Row" tb_Row 1, w ∈ jk_WA := fun w hw => jk_WA_of (List.mem_append_right _ ((by decide +kernel : ∀ w ∈ u_ws "KnotReader$Row" tb_Row 1, w ∈ tables_1) w hw)) ((by decide +kernel : ∀ w ∈ u_ws "KnotReader$Row" tb_Row 1, goodWord w = true) w hw)
def tb_Knots : u_T := fun k => match k with
  | _ => ("", "", "", false)
def tf_Knots : Nat → FieldType := fun k => match k with
  | _ => .int
theorem nm_Knots : ∀ a, a < 0 → ∀ b, b < 0 → a ≠ b → (tb_Knots a).2.1 ≠ (tb_Knots b).2.1 := by decide +kernel
theorem ty_Knots : ∀ k, k < 0 → parseFieldDescriptor (tb_Knots k).2.2.1 = some (tf_Knots k) := by decide +kernel
theorem in_Knots : ∀ w ∈ u_ws "KnotReader$Knots" tb_Knots 0, w ∈ jk_WA := fun w hw => jk_WA_of (List.mem_append_right _ ((by decide +kernel : ∀ w ∈ u_ws "KnotReader$Knots" tb_Knots 0, w ∈ tables_1) w hw)) ((by decide +kernel : ∀ w ∈ u_ws "KnotReader$Knots" tb_Knots 0, goodWord w = true) w hw)
def tb_Topics : u_T := fun k => match k with
  | 0 => ("KnotReader$Topics", "size", "I", false)
  | _ => ("KnotReader$Topics", "names", "LKnotReader$Row;", true)
def tf_Topics : Nat → FieldType := fun k => match k with
  | 0 => .int
  | _ => .object "KnotReader$Row"
theorem nm_Topics : ∀ a, a < 2 → ∀ b, b < 2 → a ≠ b → (tb_Topics a).2.1 ≠ (tb_Topics b).2.1 := by decide +kernel
theorem ty_Topics : ∀ k, k < 2 → parseFieldDescriptor (tb_Topics k).2.2.1 = some (tf_Topics k) := by decide +kernel
theorem in_Topics : ∀ w ∈ u_ws "KnotReader$Topics" tb_Topics 2, w ∈ jk_WA := fun w hw => jk_WA_of (List.mem_append_right _ ((by decide +kernel : ∀ w ∈ u_ws "KnotReader$Topics" tb_Topics 2, w ∈ tables_1) w hw)) ((by decide +kernel : ∀ w ∈ u_ws "KnotReader$Topics" tb_Topics 2, goodWord w = true) w hw)
def tb_Text : u_T := fun k => match k with
  | 0 => ("KnotReader$Text", "bytes", "LKnotReader$Row;", true)
  | 1 => ("KnotReader$Text", "length", "I", false)
  | 2 => ("KnotReader$Text", "kind", "I", false)
  | 3 => ("KnotReader$Text", "start", "I", false)
  | 4 => ("KnotReader$Text", "end", "I", false)
  | 5 => ("KnotReader$Text", "code", "I", false)
  | _ => ("KnotReader$Text", "offset", "I", false)
def tf_Text : Nat → FieldType := fun k => match k with
  | 0 => .object "KnotReader$Row"
  | 1 => .int
  | 2 => .int
  | 3 => .int
  | 4 => .int
  | 5 => .int
  | _ => .int
theorem nm_Text : ∀ a, a < 7 → ∀ b, b < 7 → a ≠ b → (tb_Text a).2.1 ≠ (tb_Text b).2.1 := by decide +kernel
theorem ty_Text : ∀ k, k < 7 → parseFieldDescriptor (tb_Text k).2.2.1 = some (tf_Text k) := by decide +kernel
theorem in_Text : ∀ w ∈ u_ws "KnotReader$Text" tb_Text 7, w ∈ jk_WA := fun w hw => jk_WA_of (List.mem_append_right _ ((by decide +kernel : ∀ w ∈ u_ws "KnotReader$Text" tb_Text 7, w ∈ tables_1) w hw)) ((by decide +kernel : ∀ w ∈ u_ws "KnotReader$Text" tb_Text 7, goodWord w = true) w hw)
def tb_Output : u_T := fun k => match k with
  | 0 => ("KnotReader$Output", "bytes", "LKnotReader$Row;", true)
  | _ => ("KnotReader$Output", "length", "I", false)
def tf_Output : Nat → FieldType := fun k => match k with
  | 0 => .object "KnotReader$Row"
  | _ => .int
theorem nm_Output : ∀ a, a < 2 → ∀ b, b < 2 → a ≠ b → (tb_Output a).2.1 ≠ (tb_Output b).2.1 := by decide +kernel
theorem ty_Output : ∀ k, k < 2 → parseFieldDescriptor (tb_Output k).2.2.1 = some (tf_Output k) := by decide +kernel
theorem in_Output : ∀ w ∈ u_ws "KnotReader$Output" tb_Output 2, w ∈ jk_WA := fun w hw => jk_WA_of (List.mem_append_right _ ((by decide +kernel : ∀ w ∈ u_ws "KnotReader$Output" tb_Output 2, w ∈ tables_1) w hw)) ((by decide +kernel : ∀ w ∈ u_ws "KnotReader$Output" tb_Output 2, goodWord w = true) w hw)
def tb_Cords : u_T := fun k => match k with
  | 0 => ("KnotReader$Cords", "clusters", "I", false)
  | 1 => ("KnotReader$Cords", "size", "I", false)
  | 2 => ("KnotReader$Cords", "starts", "LKnotReader$Row;", true)
  | 3 => ("KnotReader$Cords", "depth", "LKnotReader$Row;", true)
  | 4 => ("KnotReader$Cords", "topic", "LKnotReader$Row;", true)
  | 5 => ("KnotReader$Cords", "value", "LKnotReader$Row;", true)
  | _ => ("KnotReader$Cords", "nibbled", "LKnotReader$Row;", true)
def tf_Cords : Nat → FieldType := fun k => match k with
  | 0 => .int
  | 1 => .int
  | 2 => .object "KnotReader$Row"
  | 3 => .object "KnotReader$Row"
  | 4 => .object "KnotReader$Row"
  | 5 => .object "KnotReader$Row"
  | _ => .object "KnotReader$Row"
theorem nm_Cords : ∀ a, a < 7 → ∀ b, b < 7 → a ≠ b → (tb_Cords a).2.1 ≠ (tb_Cords b).2.1 := by decide +kernel
theorem ty_Cords : ∀ k, k < 7 → parseFieldDescriptor (tb_Cords k).2.2.1 = some (tf_Cords k) := by decide +kernel
theorem in_Cords : ∀ w ∈ u_ws "KnotReader$Cords" tb_Cords 7, w ∈ jk_WA := fun w hw => jk_WA_of (List.mem_append_right _ ((by decide +kernel : ∀ w ∈ u_ws "KnotReader$Cords" tb_Cords 7, w ∈ tables_1) w hw)) ((by decide +kernel : ∀ w ∈ u_ws "KnotReader$Cords" tb_Cords 7, goodWord w = true) w hw)
def tb_History : u_T := fun k => match k with
  | 0 => ("KnotReader$History", "ring", "[LKnotReader$Cords;", true)
  | 1 => ("KnotReader$History", "latest", "I", false)
  | _ => ("KnotReader$History", "size", "I", false)
def tf_History : Nat → FieldType := fun k => match k with
  | 0 => .array (.object "KnotReader$Cords")
  | 1 => .int
  | _ => .int
theorem nm_History : ∀ a, a < 3 → ∀ b, b < 3 → a ≠ b → (tb_History a).2.1 ≠ (tb_History b).2.1 := by decide +kernel
theorem ty_History : ∀ k, k < 3 → parseFieldDescriptor (tb_History k).2.2.1 = some (tf_History k) := by decide +kernel
theorem in_History : ∀ w ∈ u_ws "KnotReader$History" tb_History 3, w ∈ jk_WA := fun w hw => jk_WA_of (List.mem_append_right _ ((by decide +kernel : ∀ w ∈ u_ws "KnotReader$History" tb_History 3, w ∈ tables_1) w hw)) ((by decide +kernel : ∀ w ∈ u_ws "KnotReader$History" tb_History 3, goodWord w = true) w hw)
def tb_Script : u_T := fun k => match k with
  | 0 => ("KnotReader$Script", "size", "I", false)
  | 1 => ("KnotReader$Script", "kinds", "LKnotReader$Row;", true)
  | 2 => ("KnotReader$Script", "firsts", "LKnotReader$Row;", true)
  | 3 => ("KnotReader$Script", "seconds", "LKnotReader$Row;", true)
  | _ => ("KnotReader$Script", "thirds", "LKnotReader$Row;", true)
def tf_Script : Nat → FieldType := fun k => match k with
  | 0 => .int
  | 1 => .object "KnotReader$Row"
  | 2 => .object "KnotReader$Row"
  | 3 => .object "KnotReader$Row"
  | _ => .object "KnotReader$Row"
theorem nm_Script : ∀ a, a < 5 → ∀ b, b < 5 → a ≠ b → (tb_Script a).2.1 ≠ (tb_Script b).2.1 := by decide +kernel
theorem ty_Script : ∀ k, k < 5 → parseFieldDescriptor (tb_Script k).2.2.1 = some (tf_Script k) := by decide +kernel
theorem in_Script : ∀ w ∈ u_ws "KnotReader$Script" tb_Script 5, w ∈ jk_WA := fun w hw => jk_WA_of (List.mem_append_right _ ((by decide +kernel : ∀ w ∈ u_ws "KnotReader$Script" tb_Script 5, w ∈ tables_1) w hw)) ((by decide +kernel : ∀ w ∈ u_ws "KnotReader$Script" tb_Script 5, goodWord w = true) w hw)
def tb_Setup : u_T := fun k => match k with
  | _ => ("", "", "", false)
def tf_Setup : Nat → FieldType := fun k => match k with
  | _ => .int
theorem nm_Setup : ∀ a, a < 0 → ∀ b, b < 0 → a ≠ b → (tb_Setup a).2.1 ≠ (tb_Setup b).2.1 := by decide +kernel
theorem ty_Setup : ∀ k, k < 0 → parseFieldDescriptor (tb_Setup k).2.2.1 = some (tf_Setup k) := by decide +kernel
theorem in_Setup : ∀ w ∈ u_ws "KnotReader$Setup" tb_Setup 0, w ∈ jk_WA := fun w hw => jk_WA_of (List.mem_append_right _ ((by decide +kernel : ∀ w ∈ u_ws "KnotReader$Setup" tb_Setup 0, w ∈ tables_1) w hw)) ((by decide +kernel : ∀ w ∈ u_ws "KnotReader$Setup" tb_Setup 0, goodWord w = true) w hw)
def tb_Check : u_T := fun k => match k with
  | _ => ("", "", "", false)
def tf_Check : Nat → FieldType := fun k => match k with
  | _ => .int
theorem nm_Check : ∀ a, a < 0 → ∀ b, b < 0 → a ≠ b → (tb_Check a).2.1 ≠ (tb_Check b).2.1 := by decide +kernel
theorem ty_Check : ∀ k, k < 0 → parseFieldDescriptor (tb_Check k).2.2.1 = some (tf_Check k) := by decide +kernel
theorem in_Check : ∀ w ∈ u_ws "KnotReader$Check" tb_Check 0, w ∈ jk_WA := fun w hw => jk_WA_of (List.mem_append_right _ ((by decide +kernel : ∀ w ∈ u_ws "KnotReader$Check" tb_Check 0, w ∈ tables_1) w hw)) ((by decide +kernel : ∀ w ∈ u_ws "KnotReader$Check" tb_Check 0, goodWord w = true) w hw)
def tb_KR : u_T := fun k => match k with
  | 0 => ("KnotReader", "input", "LKnotReader$Text;", true)
  | 1 => ("KnotReader", "output", "LKnotReader$Output;", true)
  | 2 => ("KnotReader", "topics", "LKnotReader$Topics;", true)
  | 3 => ("KnotReader", "cords", "LKnotReader$Cords;", true)
  | 4 => ("KnotReader", "draftTopics", "LKnotReader$Topics;", true)
  | 5 => ("KnotReader", "draft", "LKnotReader$Cords;", true)
  | 6 => ("KnotReader", "saved", "LKnotReader$Cords;", true)
  | 7 => ("KnotReader", "history", "LKnotReader$History;", true)
  | 8 => ("KnotReader", "script", "LKnotReader$Script;", true)
  | 9 => ("KnotReader", "hasSaved", "Z", false)
  | 10 => ("KnotReader", "reportedCode", "I", false)
  | _ => ("KnotReader", "reportedOffset", "I", false)
def tf_KR : Nat → FieldType := fun k => match k with
  | 0 => .object "KnotReader$Text"
  | 1 => .object "KnotReader$Output"
  | 2 => .object "KnotReader$Topics"
  | 3 => .object "KnotReader$Cords"
  | 4 => .object "KnotReader$Topics"
  | 5 => .object "KnotReader$Cords"
  | 6 => .object "KnotReader$Cords"
  | 7 => .object "KnotReader$History"
  | 8 => .object "KnotReader$Script"
  | 9 => .boolean
  | 10 => .int
  | _ => .int
theorem nm_KR : ∀ a, a < 12 → ∀ b, b < 12 → a ≠ b → (tb_KR a).2.1 ≠ (tb_KR b).2.1 := by decide +kernel
theorem ty_KR : ∀ k, k < 12 → parseFieldDescriptor (tb_KR k).2.2.1 = some (tf_KR k) := by decide +kernel
theorem in_KR : ∀ w ∈ u_ws "KnotReader" tb_KR 12, w ∈ jk_WA := fun w hw => jk_WA_of (List.mem_append_right _ ((by decide +kernel : ∀ w ∈ u_ws "KnotReader" tb_KR 12, w ∈ tables_1) w hw)) ((by decide +kernel : ∀ w ∈ u_ws "KnotReader" tb_KR 12, goodWord w = true) w hw)
def tb_Cd : u_T := fun k => match k with
  | 0 => ("KnotReaderLaw$Cord", "knots", "[I", true)
  | 1 => ("KnotReaderLaw$Cord", "topic", "I", false)
  | 2 => ("KnotReaderLaw$Cord", "nibbled", "I", false)
  | _ => ("KnotReaderLaw$Cord", "below", "Ljava/util/List;", true)
def tf_Cd : Nat → FieldType := fun k => match k with
  | 0 => .array (.int)
  | 1 => .int
  | 2 => .int
  | _ => .object "java/util/List"
theorem nm_Cd : ∀ a, a < 4 → ∀ b, b < 4 → a ≠ b → (tb_Cd a).2.1 ≠ (tb_Cd b).2.1 := by decide +kernel
theorem ty_Cd : ∀ k, k < 4 → parseFieldDescriptor (tb_Cd k).2.2.1 = some (tf_Cd k) := by decide +kernel
theorem in_Cd : ∀ w ∈ u_ws "KnotReaderLaw$Cord" tb_Cd 4, w ∈ jk_WA := fun w hw => jk_WA_of (List.mem_append_right _ ((by decide +kernel : ∀ w ∈ u_ws "KnotReaderLaw$Cord" tb_Cd 4, w ∈ tables_1) w hw)) ((by decide +kernel : ∀ w ∈ u_ws "KnotReaderLaw$Cord" tb_Cd 4, goodWord w = true) w hw)
def tb_Cu : u_T := fun k => match k with
  | 0 => ("KnotReaderLaw$Cluster", "top", "LKnotReaderLaw$Cord;", false)
  | _ => ("KnotReaderLaw$Cluster", "pendants", "Ljava/util/List;", true)
def tf_Cu : Nat → FieldType := fun k => match k with
  | 0 => .object "KnotReaderLaw$Cord"
  | _ => .object "java/util/List"
theorem nm_Cu : ∀ a, a < 2 → ∀ b, b < 2 → a ≠ b → (tb_Cu a).2.1 ≠ (tb_Cu b).2.1 := by decide +kernel
theorem ty_Cu : ∀ k, k < 2 → parseFieldDescriptor (tb_Cu k).2.2.1 = some (tf_Cu k) := by decide +kernel
theorem in_Cu : ∀ w ∈ u_ws "KnotReaderLaw$Cluster" tb_Cu 2, w ∈ jk_WA := fun w hw => jk_WA_of (List.mem_append_right _ ((by decide +kernel : ∀ w ∈ u_ws "KnotReaderLaw$Cluster" tb_Cu 2, w ∈ tables_1) w hw)) ((by decide +kernel : ∀ w ∈ u_ws "KnotReaderLaw$Cluster" tb_Cu 2, goodWord w = true) w hw)
def tb_Rd : u_T := fun k => match k with
  | 0 => ("KnotReaderLaw$Reader", "clusters", "Ljava/util/List;", true)
  | 1 => ("KnotReaderLaw$Reader", "order", "Ljava/util/List;", true)
  | 2 => ("KnotReaderLaw$Reader", "depths", "Ljava/util/List;", true)
  | _ => ("KnotReaderLaw$Reader", "in", "Ljava/util/List;", true)
def tf_Rd : Nat → FieldType := fun k => match k with
  | 0 => .object "java/util/List"
  | 1 => .object "java/util/List"
  | 2 => .object "java/util/List"
  | _ => .object "java/util/List"
theorem nm_Rd : ∀ a, a < 4 → ∀ b, b < 4 → a ≠ b → (tb_Rd a).2.1 ≠ (tb_Rd b).2.1 := by decide +kernel
theorem ty_Rd : ∀ k, k < 4 → parseFieldDescriptor (tb_Rd k).2.2.1 = some (tf_Rd k) := by decide +kernel
theorem in_Rd : ∀ w ∈ u_ws "KnotReaderLaw$Reader" tb_Rd 4, w ∈ jk_WA := fun w hw => jk_WA_of (List.mem_append_right _ ((by decide +kernel : ∀ w ∈ u_ws "KnotReaderLaw$Reader" tb_Rd 4, w ∈ tables_1) w hw)) ((by decide +kernel : ∀ w ∈ u_ws "KnotReaderLaw$Reader" tb_Rd 4, goodWord w = true) w hw)
def tb_AL : u_T := fun k => match k with
  | 0 => ("java/util/AbstractList", "modCount", "I", false)
  | 1 => ("java/util/ArrayList", "elementData", "[Ljava/lang/Object;", false)
  | _ => ("java/util/ArrayList", "size", "I", false)
def tf_AL : Nat → FieldType := fun k => match k with
  | 0 => .int
  | 1 => .array (.object "java/lang/Object")
  | _ => .int
theorem nm_AL : ∀ a, a < 3 → ∀ b, b < 3 → a ≠ b → (tb_AL a).2.1 ≠ (tb_AL b).2.1 := by decide +kernel
theorem ty_AL : ∀ k, k < 3 → parseFieldDescriptor (tb_AL k).2.2.1 = some (tf_AL k) := by decide +kernel
theorem in_AL : ∀ w ∈ u_ws "java/util/ArrayList" tb_AL 3, w ∈ jk_WA := fun w hw => jk_WA_of (List.mem_append_right _ ((by decide +kernel : ∀ w ∈ u_ws "java/util/ArrayList" tb_AL 3, w ∈ tables_1) w hw)) ((by decide +kernel : ∀ w ∈ u_ws "java/util/ArrayList" tb_AL 3, goodWord w = true) w hw)
def tb_It : u_T := fun k => match k with
  | 0 => ("java/util/ArrayList$Itr", "cursor", "I", false)
  | 1 => ("java/util/ArrayList$Itr", "lastRet", "I", false)
  | 2 => ("java/util/ArrayList$Itr", "expectedModCount", "I", false)
  | _ => ("java/util/ArrayList$Itr", "this$0", "Ljava/util/ArrayList;", true)
def tf_It : Nat → FieldType := fun k => match k with
  | 0 => .int
  | 1 => .int
  | 2 => .int
  | _ => .object "java/util/ArrayList"
theorem nm_It : ∀ a, a < 4 → ∀ b, b < 4 → a ≠ b → (tb_It a).2.1 ≠ (tb_It b).2.1 := by decide +kernel
theorem ty_It : ∀ k, k < 4 → parseFieldDescriptor (tb_It k).2.2.1 = some (tf_It k) := by decide +kernel
theorem in_It : ∀ w ∈ u_ws "java/util/ArrayList$Itr" tb_It 4, w ∈ jk_WA := fun w hw => jk_WA_of (List.mem_append_right _ ((by decide +kernel : ∀ w ∈ u_ws "java/util/ArrayList$Itr" tb_It 4, w ∈ tables_1) w hw)) ((by decide +kernel : ∀ w ∈ u_ws "java/util/ArrayList$Itr" tb_It 4, goodWord w = true) w hw)
def tb_SB : u_T := fun k => match k with
  | 0 => ("java/lang/AbstractStringBuilder", "value", "[B", false)
  | 1 => ("java/lang/AbstractStringBuilder", "coder", "B", false)
  | 2 => ("java/lang/AbstractStringBuilder", "maybeLatin1", "Z", false)
  | _ => ("java/lang/AbstractStringBuilder", "count", "I", false)
def tf_SB : Nat → FieldType := fun k => match k with
  | 0 => .array (.byte)
  | 1 => .byte
  | 2 => .boolean
  | _ => .int
theorem nm_SB : ∀ a, a < 4 → ∀ b, b < 4 → a ≠ b → (tb_SB a).2.1 ≠ (tb_SB b).2.1 := by decide +kernel
theorem ty_SB : ∀ k, k < 4 → parseFieldDescriptor (tb_SB k).2.2.1 = some (tf_SB k) := by decide +kernel
theorem in_SB : ∀ w ∈ u_ws "java/lang/StringBuilder" tb_SB 4, w ∈ jk_WA := fun w hw => jk_WA_of (List.mem_append_right _ ((by decide +kernel : ∀ w ∈ u_ws "java/lang/StringBuilder" tb_SB 4, w ∈ tables_1) w hw)) ((by decide +kernel : ∀ w ∈ u_ws "java/lang/StringBuilder" tb_SB 4, goodWord w = true) w hw)
def tb_JStr : u_T := fun k => match k with
  | 0 => ("java/lang/String", "value", "[B", true)
  | 1 => ("java/lang/String", "coder", "B", true)
  | 2 => ("java/lang/String", "hash", "I", false)
  | _ => ("java/lang/String", "hashIsZero", "Z", false)
def tf_JStr : Nat → FieldType := fun k => match k with
  | 0 => .array (.byte)
  | 1 => .byte
  | 2 => .int
  | _ => .boolean
theorem nm_JStr : ∀ a, a < 4 → ∀ b, b < 4 → a ≠ b → (tb_JStr a).2.1 ≠ (tb_JStr b).2.1 := by decide +kernel
theorem ty_JStr : ∀ k, k < 4 → parseFieldDescriptor (tb_JStr k).2.2.1 = some (tf_JStr k) := by decide +kernel
theorem in_JStr : ∀ w ∈ u_ws "java/lang/String" tb_JStr 4, w ∈ jk_WA := fun w hw => jk_WA_of (List.mem_append_right _ ((by decide +kernel : ∀ w ∈ u_ws "java/lang/String" tb_JStr 4, w ∈ tables_1) w hw)) ((by decide +kernel : ∀ w ∈ u_ws "java/lang/String" tb_JStr 4, goodWord w = true) w hw)
def tb_JInt : u_T := fun k => match k with
  | _ => ("java/lang/Integer", "value", "I", true)
def tf_JInt : Nat → FieldType := fun k => match k with
  | _ => .int
theorem nm_JInt : ∀ a, a < 1 → ∀ b, b < 1 → a ≠ b → (tb_JInt a).2.1 ≠ (tb_JInt b).2.1 := by decide +kernel
theorem ty_JInt : ∀ k, k < 1 → parseFieldDescriptor (tb_JInt k).2.2.1 = some (tf_JInt k) := by decide +kernel
theorem in_JInt : ∀ w ∈ u_ws "java/lang/Integer" tb_JInt 1, w ∈ jk_WA := fun w hw => jk_WA_of (List.mem_append_right _ ((by decide +kernel : ∀ w ∈ u_ws "java/lang/Integer" tb_JInt 1, w ∈ tables_1) w hw)) ((by decide +kernel : ∀ w ∈ u_ws "java/lang/Integer" tb_JInt 1, goodWord w = true) w hw)
abbrev jk_cl : List vw_C := [("KnotReader$Row", tb_Row, 1), ("KnotReader$Row", tb_Row, 1), ("KnotReader$Topics", tb_Topics, 2), ("KnotReader$Text", tb_Text, 7), ("KnotReader$Output", tb_Output, 2), ("KnotReader$Cords", tb_Cords, 7), ("KnotReader$History", tb_History, 3), ("KnotReader$Script", tb_Script, 5), ("KnotReader$Row", tb_Row, 1), ("KnotReader$Row", tb_Row, 1), ("KnotReader", tb_KR, 12), ("KnotReaderLaw$Cord", tb_Cd, 4), ("KnotReaderLaw$Cluster", tb_Cu, 2), ("KnotReaderLaw$Reader", tb_Rd, 4), ("java/util/ArrayList", tb_AL, 3), ("java/util/ArrayList$Itr", tb_It, 4), ("java/lang/StringBuilder", tb_SB, 4), ("java/lang/String", tb_JStr, 4), ("java/lang/Integer", tb_JInt, 1)]
abbrev jk_ty (cI cR : ClassId) : List (ClassId × FieldType) := [(cI, .int), (cR, .object "KnotReader$Cords")]
def mn_History_at : MethodName := ⟨"KnotReader$History", "at", "(I)LKnotReader$Cords;"⟩
abbrev mb_History_at : ByteArray := prog_4_method_5_code
theorem na_History_at : jk_nm mn_History_at 1 := ⟨by decide +kernel, by decide +kernel, by decide +kernel⟩
def mn_Row_get : MethodName := ⟨"KnotReader$Row", "get", "(I)I"⟩
abbrev mb_Row_get : ByteArray := prog_7_method_2_code
theorem na_Row_get : jk_nm mn_Row_get 1 := ⟨by decide +kernel, by decide +kernel, by decide +kernel⟩
def mn_Cords_clusterAt : MethodName := ⟨"KnotReader$Cords", "clusterAt", "(I)I"⟩
abbrev mb_Cords_clusterAt : ByteArray := prog_3_method_9_code
theorem na_Cords_clusterAt : jk_nm mn_Cords_clusterAt 1 := ⟨by decide +kernel, by decide +kernel, by decide +kernel⟩
def mn_Cords_end : MethodName := ⟨"KnotReader$Cords", "end", "(I)I"⟩
abbrev mb_Cords_end : ByteArray := prog_3_method_8_code
theorem na_Cords_end : jk_nm mn_Cords_end 1 := ⟨by decide +kernel, by decide +kernel, by decide +kernel⟩
def mn_Cords_start : MethodName := ⟨"KnotReader$Cords", "start", "(I)I"⟩
abbrev mb_Cords_start : ByteArray := prog_3_method_7_code
theorem na_Cords_start : jk_nm mn_Cords_start 1 := ⟨by decide +kernel, by decide +kernel, by decide +kernel⟩
def mn_Check_standsWell : MethodName := ⟨"KnotReader$Check", "standsWell", "(LKnotReader$Cords;I)Z"⟩
abbrev mb_Check_standsWell : ByteArray := prog_2_method_3_code
theorem na_Check_standsWell : jk_nm mn_Check_standsWell 2 := ⟨by decide +kernel, by decide +kernel, by decide +kernel⟩
def mn_Check_order : MethodName := ⟨"KnotReader$Check", "order", "(LKnotReader$Cords;)Z"⟩
abbrev mb_Check_order : ByteArray := prog_2_method_2_code
theorem na_Check_order : jk_nm mn_Check_order 1 := ⟨by decide +kernel, by decide +kernel, by decide +kernel⟩
def mn_Cords_branchEnd : MethodName := ⟨"KnotReader$Cords", "branchEnd", "(I)I"⟩
abbrev mb_Cords_branchEnd : ByteArray := prog_3_method_12_code
theorem na_Cords_branchEnd : jk_nm mn_Cords_branchEnd 1 := ⟨by decide +kernel, by decide +kernel, by decide +kernel⟩
def mn_Check_totalByRecursion : MethodName := ⟨"KnotReader$Check", "totalByRecursion", "(LKnotReader$Cords;II)I"⟩
abbrev mb_Check_totalByRecursion : ByteArray := prog_2_method_5_code
theorem na_Check_totalByRecursion : jk_nm mn_Check_totalByRecursion 3 := ⟨by decide +kernel, by decide +kernel, by decide +kernel⟩
def mn_Knots_power : MethodName := ⟨"KnotReader$Knots", "power", "(I)I"⟩
abbrev mb_Knots_power : ByteArray := prog_5_method_2_code
theorem na_Knots_power : jk_nm mn_Knots_power 1 := ⟨by decide +kernel, by decide +kernel, by decide +kernel⟩
def mn_Cords_highestSum : MethodName := ⟨"KnotReader$Cords", "highestSum", "(II)I"⟩
abbrev mb_Cords_highestSum : ByteArray := prog_3_method_19_code
theorem na_Cords_highestSum : jk_nm mn_Cords_highestSum 2 := ⟨by decide +kernel, by decide +kernel, by decide +kernel⟩
def mn_Cords_lowestSum : MethodName := ⟨"KnotReader$Cords", "lowestSum", "(II)I"⟩
abbrev mb_Cords_lowestSum : ByteArray := prog_3_method_18_code
theorem na_Cords_lowestSum : jk_nm mn_Cords_lowestSum 2 := ⟨by decide +kernel, by decide +kernel, by decide +kernel⟩
def mn_Cords_nibbledAmong : MethodName := ⟨"KnotReader$Cords", "nibbledAmong", "(II)I"⟩
abbrev mb_Cords_nibbledAmong : ByteArray := prog_3_method_17_code
theorem na_Cords_nibbledAmong : jk_nm mn_Cords_nibbledAmong 2 := ⟨by decide +kernel, by decide +kernel, by decide +kernel⟩
def mn_Check_branches : MethodName := ⟨"KnotReader$Check", "branches", "(LKnotReader$Cords;)Z"⟩
abbrev mb_Check_branches : ByteArray := prog_2_method_4_code
theorem na_Check_branches : jk_nm mn_Check_branches 1 := ⟨by decide +kernel, by decide +kernel, by decide +kernel⟩
def mn_Check_sumByRecursion : MethodName := ⟨"KnotReader$Check", "sumByRecursion", "(LKnotReader$Cords;I)I"⟩
abbrev mb_Check_sumByRecursion : ByteArray := prog_2_method_7_code
theorem na_Check_sumByRecursion : jk_nm mn_Check_sumByRecursion 2 := ⟨by decide +kernel, by decide +kernel, by decide +kernel⟩
def mn_Cords_pendantStart : MethodName := ⟨"KnotReader$Cords", "pendantStart", "(I)I"⟩
abbrev mb_Cords_pendantStart : ByteArray := prog_3_method_10_code
theorem na_Cords_pendantStart : jk_nm mn_Cords_pendantStart 1 := ⟨by decide +kernel, by decide +kernel, by decide +kernel⟩
def mn_Cords_hasKnownSum : MethodName := ⟨"KnotReader$Cords", "hasKnownSum", "(I)Z"⟩
abbrev mb_Cords_hasKnownSum : ByteArray := prog_3_method_20_code
theorem na_Cords_hasKnownSum : jk_nm mn_Cords_hasKnownSum 1 := ⟨by decide +kernel, by decide +kernel, by decide +kernel⟩
def mn_Cords_sum : MethodName := ⟨"KnotReader$Cords", "sum", "(I)I"⟩
abbrev mb_Cords_sum : ByteArray := prog_3_method_21_code
theorem na_Cords_sum : jk_nm mn_Cords_sum 1 := ⟨by decide +kernel, by decide +kernel, by decide +kernel⟩
def mn_Check_sums : MethodName := ⟨"KnotReader$Check", "sums", "(LKnotReader$Cords;)Z"⟩
abbrev mb_Check_sums : ByteArray := prog_2_method_6_code
theorem na_Check_sums : jk_nm mn_Check_sums 1 := ⟨by decide +kernel, by decide +kernel, by decide +kernel⟩
def mn_Row_copyFrom : MethodName := ⟨"KnotReader$Row", "copyFrom", "(LKnotReader$Row;)V"⟩
abbrev mb_Row_copyFrom : ByteArray := prog_7_method_5_code
theorem na_Row_copyFrom : jk_nm mn_Row_copyFrom 1 := ⟨by decide +kernel, by decide +kernel, by decide +kernel⟩
def mn_Cords_copyFrom : MethodName := ⟨"KnotReader$Cords", "copyFrom", "(LKnotReader$Cords;)V"⟩
abbrev mb_Cords_copyFrom : ByteArray := prog_3_method_3_code
theorem na_Cords_copyFrom : jk_nm mn_Cords_copyFrom 1 := ⟨by decide +kernel, by decide +kernel, by decide +kernel⟩
def mn_Cords_onlyNibbled : MethodName := ⟨"KnotReader$Cords", "onlyNibbled", "(I)I"⟩
abbrev mb_Cords_onlyNibbled : ByteArray := prog_3_method_23_code
theorem na_Cords_onlyNibbled : jk_nm mn_Cords_onlyNibbled 1 := ⟨by decide +kernel, by decide +kernel, by decide +kernel⟩
def mn_Cords_guess : MethodName := ⟨"KnotReader$Cords", "guess", "(I)I"⟩
abbrev mb_Cords_guess : ByteArray := prog_3_method_24_code
theorem na_Cords_guess : jk_nm mn_Cords_guess 1 := ⟨by decide +kernel, by decide +kernel, by decide +kernel⟩
def mn_Row_set : MethodName := ⟨"KnotReader$Row", "set", "(II)V"⟩
abbrev mb_Row_set : ByteArray := prog_7_method_3_code
theorem na_Row_set : jk_nm mn_Row_set 2 := ⟨by decide +kernel, by decide +kernel, by decide +kernel⟩
def mn_Cords_mend : MethodName := ⟨"KnotReader$Cords", "mend", "(I)I"⟩
abbrev mb_Cords_mend : ByteArray := prog_3_method_34_code
theorem na_Cords_mend : jk_nm mn_Cords_mend 1 := ⟨by decide +kernel, by decide +kernel, by decide +kernel⟩
def mn_KR_isValue : MethodName := ⟨"KnotReader", "isValue", "(I)Z"⟩
abbrev mb_KR_isValue : ByteArray := prog_1_method_62_code
theorem na_KR_isValue : jk_nm mn_KR_isValue 1 := ⟨by decide +kernel, by decide +kernel, by decide +kernel⟩
def mn_Knots_withoutLast : MethodName := ⟨"KnotReader$Knots", "withoutLast", "(II)I"⟩
abbrev mb_Knots_withoutLast : ByteArray := prog_5_method_6_code
theorem na_Knots_withoutLast : jk_nm mn_Knots_withoutLast 2 := ⟨by decide +kernel, by decide +kernel, by decide +kernel⟩
def mn_Knots_lose : MethodName := ⟨"KnotReader$Knots", "lose", "(II)I"⟩
abbrev mb_Knots_lose : ByteArray := prog_5_method_5_code
theorem na_Knots_lose : jk_nm mn_Knots_lose 2 := ⟨by decide +kernel, by decide +kernel, by decide +kernel⟩
def mn_Cords_fits : MethodName := ⟨"KnotReader$Cords", "fits", "(II)Z"⟩
abbrev mb_Cords_fits : ByteArray := prog_3_method_26_code
theorem na_Cords_fits : jk_nm mn_Cords_fits 2 := ⟨by decide +kernel, by decide +kernel, by decide +kernel⟩
def mn_Cords_hasTop : MethodName := ⟨"KnotReader$Cords", "hasTop", "(I)Z"⟩
abbrev mb_Cords_hasTop : ByteArray := prog_3_method_11_code
theorem na_Cords_hasTop : jk_nm mn_Cords_hasTop 1 := ⟨by decide +kernel, by decide +kernel, by decide +kernel⟩
def mn_Cords_obstacle : MethodName := ⟨"KnotReader$Cords", "obstacle", "(I)I"⟩
abbrev mb_Cords_obstacle : ByteArray := prog_3_method_25_code
theorem na_Cords_obstacle : jk_nm mn_Cords_obstacle 1 := ⟨by decide +kernel, by decide +kernel, by decide +kernel⟩
def mn_Cords_state : MethodName := ⟨"KnotReader$Cords", "state", "(I)I"⟩
abbrev mb_Cords_state : ByteArray := prog_3_method_22_code
theorem na_Cords_state : jk_nm mn_Cords_state 1 := ⟨by decide +kernel, by decide +kernel, by decide +kernel⟩
def mn_Check_guesses : MethodName := ⟨"KnotReader$Check", "guesses", "(LKnotReader$Cords;LKnotReader$Cords;)Z"⟩
abbrev mb_Check_guesses : ByteArray := prog_2_method_8_code
theorem na_Check_guesses : jk_nm mn_Check_guesses 2 := ⟨by decide +kernel, by decide +kernel, by decide +kernel⟩
def mn_Cords_clear : MethodName := ⟨"KnotReader$Cords", "clear", "()V"⟩
abbrev mb_Cords_clear : ByteArray := prog_3_method_2_code
theorem na_Cords_clear : jk_nm mn_Cords_clear 0 := ⟨by decide +kernel, by decide +kernel, by decide +kernel⟩
def mn_Cords_has : MethodName := ⟨"KnotReader$Cords", "has", "(I)Z"⟩
abbrev mb_Cords_has : ByteArray := prog_3_method_4_code
theorem na_Cords_has : jk_nm mn_Cords_has 1 := ⟨by decide +kernel, by decide +kernel, by decide +kernel⟩
def mn_Cords_hasCluster : MethodName := ⟨"KnotReader$Cords", "hasCluster", "(I)Z"⟩
abbrev mb_Cords_hasCluster : ByteArray := prog_3_method_5_code
theorem na_Cords_hasCluster : jk_nm mn_Cords_hasCluster 1 := ⟨by decide +kernel, by decide +kernel, by decide +kernel⟩
def mn_Cords_canHoldMore : MethodName := ⟨"KnotReader$Cords", "canHoldMore", "(I)Z"⟩
abbrev mb_Cords_canHoldMore : ByteArray := prog_3_method_6_code
theorem na_Cords_canHoldMore : jk_nm mn_Cords_canHoldMore 1 := ⟨by decide +kernel, by decide +kernel, by decide +kernel⟩
def mn_Cords_latestAtDepth : MethodName := ⟨"KnotReader$Cords", "latestAtDepth", "(III)I"⟩
abbrev mb_Cords_latestAtDepth : ByteArray := prog_3_method_14_code
theorem na_Cords_latestAtDepth : jk_nm mn_Cords_latestAtDepth 3 := ⟨by decide +kernel, by decide +kernel, by decide +kernel⟩
def mn_Cords_countAtDepth : MethodName := ⟨"KnotReader$Cords", "countAtDepth", "(III)I"⟩
abbrev mb_Cords_countAtDepth : ByteArray := prog_3_method_15_code
theorem na_Cords_countAtDepth : jk_nm mn_Cords_countAtDepth 3 := ⟨by decide +kernel, by decide +kernel, by decide +kernel⟩
def mn_Cords_openCluster : MethodName := ⟨"KnotReader$Cords", "openCluster", "()I"⟩
abbrev mb_Cords_openCluster : ByteArray := prog_3_method_27_code
theorem na_Cords_openCluster : jk_nm mn_Cords_openCluster 0 := ⟨by decide +kernel, by decide +kernel, by decide +kernel⟩
def mn_Cords_resize : MethodName := ⟨"KnotReader$Cords", "resize", "(II)V"⟩
abbrev mb_Cords_resize : ByteArray := prog_3_method_30_code
theorem na_Cords_resize : jk_nm mn_Cords_resize 2 := ⟨by decide +kernel, by decide +kernel, by decide +kernel⟩
def mn_Row_insert : MethodName := ⟨"KnotReader$Row", "insert", "(III)V"⟩
abbrev mb_Row_insert : ByteArray := prog_7_method_6_code
theorem na_Row_insert : jk_nm mn_Row_insert 3 := ⟨by decide +kernel, by decide +kernel, by decide +kernel⟩
def mn_Cords_insert : MethodName := ⟨"KnotReader$Cords", "insert", "(IIIII)I"⟩
abbrev mb_Cords_insert : ByteArray := prog_3_method_28_code
theorem na_Cords_insert : jk_nm mn_Cords_insert 5 := ⟨by decide +kernel, by decide +kernel, by decide +kernel⟩
def mn_Row_remove : MethodName := ⟨"KnotReader$Row", "remove", "(III)V"⟩
abbrev mb_Row_remove : ByteArray := prog_7_method_7_code
theorem na_Row_remove : jk_nm mn_Row_remove 3 := ⟨by decide +kernel, by decide +kernel, by decide +kernel⟩
def mn_Cords_remove : MethodName := ⟨"KnotReader$Cords", "remove", "(II)I"⟩
abbrev mb_Cords_remove : ByteArray := prog_3_method_29_code
theorem na_Cords_remove : jk_nm mn_Cords_remove 2 := ⟨by decide +kernel, by decide +kernel, by decide +kernel⟩
def mn_Cords_tie : MethodName := ⟨"KnotReader$Cords", "tie", "(II)I"⟩
abbrev mb_Cords_tie : ByteArray := prog_3_method_31_code
theorem na_Cords_tie : jk_nm mn_Cords_tie 2 := ⟨by decide +kernel, by decide +kernel, by decide +kernel⟩
def mn_Knots_at : MethodName := ⟨"KnotReader$Knots", "at", "(II)I"⟩
abbrev mb_Knots_at : ByteArray := prog_5_method_3_code
theorem na_Knots_at : jk_nm mn_Knots_at 2 := ⟨by decide +kernel, by decide +kernel, by decide +kernel⟩
def mn_Cords_knot : MethodName := ⟨"KnotReader$Cords", "knot", "(III)I"⟩
abbrev mb_Cords_knot : ByteArray := prog_3_method_32_code
theorem na_Cords_knot : jk_nm mn_Cords_knot 3 := ⟨by decide +kernel, by decide +kernel, by decide +kernel⟩
def mn_Knots_sum : MethodName := ⟨"KnotReader$Knots", "sum", "(I)I"⟩
abbrev mb_Knots_sum : ByteArray := prog_5_method_4_code
theorem na_Knots_sum : jk_nm mn_Knots_sum 1 := ⟨by decide +kernel, by decide +kernel, by decide +kernel⟩
def mn_Cords_loseKnots : MethodName := ⟨"KnotReader$Cords", "loseKnots", "(II)I"⟩
abbrev mb_Cords_loseKnots : ByteArray := prog_3_method_33_code
theorem na_Cords_loseKnots : jk_nm mn_Cords_loseKnots 2 := ⟨by decide +kernel, by decide +kernel, by decide +kernel⟩
def mn_History_clear : MethodName := ⟨"KnotReader$History", "clear", "()V"⟩
abbrev mb_History_clear : ByteArray := prog_4_method_2_code
theorem na_History_clear : jk_nm mn_History_clear 0 := ⟨by decide +kernel, by decide +kernel, by decide +kernel⟩
def mn_History_push : MethodName := ⟨"KnotReader$History", "push", "(LKnotReader$Cords;)V"⟩
abbrev mb_History_push : ByteArray := prog_4_method_3_code
theorem na_History_push : jk_nm mn_History_push 1 := ⟨by decide +kernel, by decide +kernel, by decide +kernel⟩
def mn_Row_replace : MethodName := ⟨"KnotReader$Row", "replace", "(II)I"⟩
abbrev mb_Row_replace : ByteArray := prog_7_method_4_code
theorem na_Row_replace : jk_nm mn_Row_replace 2 := ⟨by decide +kernel, by decide +kernel, by decide +kernel⟩
def mn_Text_fail : MethodName := ⟨"KnotReader$Text", "fail", "(I)V"⟩
abbrev mb_Text_fail : ByteArray := prog_10_method_8_code
theorem na_Text_fail : jk_nm mn_Text_fail 1 := ⟨by decide +kernel, by decide +kernel, by decide +kernel⟩
def mn_Text_hasFailed : MethodName := ⟨"KnotReader$Text", "hasFailed", "()Z"⟩
abbrev mb_Text_hasFailed : ByteArray := prog_10_method_7_code
theorem na_Text_hasFailed : jk_nm mn_Text_hasFailed 0 := ⟨by decide +kernel, by decide +kernel, by decide +kernel⟩
def mn_Text_sortAt : MethodName := ⟨"KnotReader$Text", "sortAt", "(I)I"⟩
abbrev mb_Text_sortAt : ByteArray := prog_10_method_10_code
theorem na_Text_sortAt : jk_nm mn_Text_sortAt 1 := ⟨by decide +kernel, by decide +kernel, by decide +kernel⟩
def mn_Text_next : MethodName := ⟨"KnotReader$Text", "next", "()V"⟩
abbrev mb_Text_next : ByteArray := prog_10_method_9_code
theorem na_Text_next : jk_nm mn_Text_next 0 := ⟨by decide +kernel, by decide +kernel, by decide +kernel⟩
def mn_Text_readSemicolon : MethodName := ⟨"KnotReader$Text", "readSemicolon", "()V"⟩
abbrev mb_Text_readSemicolon : ByteArray := prog_10_method_18_code
theorem na_Text_readSemicolon : jk_nm mn_Text_readSemicolon 0 := ⟨by decide +kernel, by decide +kernel, by decide +kernel⟩
def mn_Setup_readCluster : MethodName := ⟨"KnotReader$Setup", "readCluster", "(LKnotReader$Text;LKnotReader$Cords;)V"⟩
abbrev mb_Setup_readCluster : ByteArray := prog_9_method_4_code
theorem na_Setup_readCluster : jk_nm mn_Setup_readCluster 2 := ⟨by decide +kernel, by decide +kernel, by decide +kernel⟩
def mn_Text_isWord : MethodName := ⟨"KnotReader$Text", "isWord", "(Ljava/lang/String;)Z"⟩
abbrev mb_Text_isWord : ByteArray := prog_10_method_12_code
theorem na_Text_isWord : jk_nm mn_Text_isWord 1 := ⟨by decide +kernel, by decide +kernel, by decide +kernel⟩
def mn_Setup_checkFirstWord : MethodName := ⟨"KnotReader$Setup", "checkFirstWord", "(LKnotReader$Text;LKnotReader$Cords;)V"⟩
abbrev mb_Setup_checkFirstWord : ByteArray := prog_9_method_6_code
theorem na_Setup_checkFirstWord : jk_nm mn_Setup_checkFirstWord 2 := ⟨by decide +kernel, by decide +kernel, by decide +kernel⟩
def mn_Setup_placeFor : MethodName := ⟨"KnotReader$Setup", "placeFor", "(LKnotReader$Cords;I)I"⟩
abbrev mb_Setup_placeFor : ByteArray := prog_9_method_7_code
theorem na_Setup_placeFor : jk_nm mn_Setup_placeFor 2 := ⟨by decide +kernel, by decide +kernel, by decide +kernel⟩
def mn_Text_readNumber : MethodName := ⟨"KnotReader$Text", "readNumber", "(II)I"⟩
abbrev mb_Text_readNumber : ByteArray := prog_10_method_13_code
theorem na_Text_readNumber : jk_nm mn_Text_readNumber 2 := ⟨by decide +kernel, by decide +kernel, by decide +kernel⟩
def mn_Text_name : MethodName := ⟨"KnotReader$Text", "name", "()I"⟩
abbrev mb_Text_name : ByteArray := prog_10_method_16_code
theorem na_Text_name : jk_nm mn_Text_name 0 := ⟨by decide +kernel, by decide +kernel, by decide +kernel⟩
def mn_Topics_find : MethodName := ⟨"KnotReader$Topics", "find", "(I)I"⟩
abbrev mb_Topics_find : ByteArray := prog_11_method_6_code
theorem na_Topics_find : jk_nm mn_Topics_find 1 := ⟨by decide +kernel, by decide +kernel, by decide +kernel⟩
def mn_Text_readTopic : MethodName := ⟨"KnotReader$Text", "readTopic", "(LKnotReader$Topics;)I"⟩
abbrev mb_Text_readTopic : ByteArray := prog_10_method_14_code
theorem na_Text_readTopic : jk_nm mn_Text_readTopic 1 := ⟨by decide +kernel, by decide +kernel, by decide +kernel⟩
def mn_Text_takesWord : MethodName := ⟨"KnotReader$Text", "takesWord", "(Ljava/lang/String;)Z"⟩
abbrev mb_Text_takesWord : ByteArray := prog_10_method_17_code
theorem na_Text_takesWord : jk_nm mn_Text_takesWord 1 := ⟨by decide +kernel, by decide +kernel, by decide +kernel⟩
def mn_Setup_readCord : MethodName := ⟨"KnotReader$Setup", "readCord", "(LKnotReader$Text;LKnotReader$Topics;LKnotReader$Cords;)V"⟩
abbrev mb_Setup_readCord : ByteArray := prog_9_method_5_code
theorem na_Setup_readCord : jk_nm mn_Setup_readCord 3 := ⟨by decide +kernel, by decide +kernel, by decide +kernel⟩
def mn_Topics_add : MethodName := ⟨"KnotReader$Topics", "add", "(I)V"⟩
abbrev mb_Topics_add : ByteArray := prog_11_method_7_code
theorem na_Topics_add : jk_nm mn_Topics_add 1 := ⟨by decide +kernel, by decide +kernel, by decide +kernel⟩
def mn_Text_readNewTopic : MethodName := ⟨"KnotReader$Text", "readNewTopic", "(LKnotReader$Topics;)V"⟩
abbrev mb_Text_readNewTopic : ByteArray := prog_10_method_15_code
theorem na_Text_readNewTopic : jk_nm mn_Text_readNewTopic 1 := ⟨by decide +kernel, by decide +kernel, by decide +kernel⟩
def mn_Setup_readTopic : MethodName := ⟨"KnotReader$Setup", "readTopic", "(LKnotReader$Text;LKnotReader$Topics;)V"⟩
abbrev mb_Setup_readTopic : ByteArray := prog_9_method_3_code
theorem na_Setup_readTopic : jk_nm mn_Setup_readTopic 2 := ⟨by decide +kernel, by decide +kernel, by decide +kernel⟩
def mn_Text_begin : MethodName := ⟨"KnotReader$Text", "begin", "()V"⟩
abbrev mb_Text_begin : ByteArray := prog_10_method_6_code
theorem na_Text_begin : jk_nm mn_Text_begin 0 := ⟨by decide +kernel, by decide +kernel, by decide +kernel⟩
def mn_Text_nextStatement : MethodName := ⟨"KnotReader$Text", "nextStatement", "()Z"⟩
abbrev mb_Text_nextStatement : ByteArray := prog_10_method_11_code
theorem na_Text_nextStatement : jk_nm mn_Text_nextStatement 0 := ⟨by decide +kernel, by decide +kernel, by decide +kernel⟩
def mn_Topics_clear : MethodName := ⟨"KnotReader$Topics", "clear", "()V"⟩
abbrev mb_Topics_clear : ByteArray := prog_11_method_2_code
theorem na_Topics_clear : jk_nm mn_Topics_clear 0 := ⟨by decide +kernel, by decide +kernel, by decide +kernel⟩
def mn_Setup_parse : MethodName := ⟨"KnotReader$Setup", "parse", "(LKnotReader$Text;LKnotReader$Topics;LKnotReader$Cords;)V"⟩
abbrev mb_Setup_parse : ByteArray := prog_9_method_2_code
theorem na_Setup_parse : jk_nm mn_Setup_parse 3 := ⟨by decide +kernel, by decide +kernel, by decide +kernel⟩
def mn_Text_clear : MethodName := ⟨"KnotReader$Text", "clear", "()V"⟩
abbrev mb_Text_clear : ByteArray := prog_10_method_2_code
theorem na_Text_clear : jk_nm mn_Text_clear 0 := ⟨by decide +kernel, by decide +kernel, by decide +kernel⟩
def mn_Text_putByte : MethodName := ⟨"KnotReader$Text", "putByte", "(I)V"⟩
abbrev mb_Text_putByte : ByteArray := prog_10_method_5_code
theorem na_Text_putByte : jk_nm mn_Text_putByte 1 := ⟨by decide +kernel, by decide +kernel, by decide +kernel⟩
def mn_Text_put : MethodName := ⟨"KnotReader$Text", "put", "(Ljava/lang/String;)V"⟩
abbrev mb_Text_put : ByteArray := prog_10_method_3_code
theorem na_Text_put : jk_nm mn_Text_put 1 := ⟨by decide +kernel, by decide +kernel, by decide +kernel⟩
def mn_Text_putFour : MethodName := ⟨"KnotReader$Text", "putFour", "(I)V"⟩
abbrev mb_Text_putFour : ByteArray := prog_10_method_4_code
theorem na_Text_putFour : jk_nm mn_Text_putFour 1 := ⟨by decide +kernel, by decide +kernel, by decide +kernel⟩
def mn_Topics_copyFrom : MethodName := ⟨"KnotReader$Topics", "copyFrom", "(LKnotReader$Topics;)V"⟩
abbrev mb_Topics_copyFrom : ByteArray := prog_11_method_3_code
theorem na_Topics_copyFrom : jk_nm mn_Topics_copyFrom 1 := ⟨by decide +kernel, by decide +kernel, by decide +kernel⟩
def mn_Topics_has : MethodName := ⟨"KnotReader$Topics", "has", "(I)Z"⟩
abbrev mb_Topics_has : ByteArray := prog_11_method_4_code
theorem na_Topics_has : jk_nm mn_Topics_has 1 := ⟨by decide +kernel, by decide +kernel, by decide +kernel⟩
def mn_KR_appendInput : MethodName := ⟨"KnotReader", "appendInput", "(IIIII)I"⟩
abbrev mb_KR_appendInput : ByteArray := prog_1_method_2_code
theorem na_KR_appendInput : jk_nm mn_KR_appendInput 5 := ⟨by decide +kernel, by decide +kernel, by decide +kernel⟩
def mn_KR_truncateInput : MethodName := ⟨"KnotReader", "truncateInput", "(I)Z"⟩
abbrev mb_KR_truncateInput : ByteArray := prog_1_method_3_code
theorem na_KR_truncateInput : jk_nm mn_KR_truncateInput 1 := ⟨by decide +kernel, by decide +kernel, by decide +kernel⟩
def mn_KR_closeText : MethodName := ⟨"KnotReader", "closeText", "()Z"⟩
abbrev mb_KR_closeText : ByteArray := prog_1_method_6_code
theorem na_KR_closeText : jk_nm mn_KR_closeText 0 := ⟨by decide +kernel, by decide +kernel, by decide +kernel⟩
def mn_KR_loadCords : MethodName := ⟨"KnotReader", "loadCords", "()I"⟩
abbrev mb_KR_loadCords : ByteArray := prog_1_method_4_code
theorem na_KR_loadCords : jk_nm mn_KR_loadCords 0 := ⟨by decide +kernel, by decide +kernel, by decide +kernel⟩
def mn_KR_clusterCount : MethodName := ⟨"KnotReader", "clusterCount", "()I"⟩
abbrev mb_KR_clusterCount : ByteArray := prog_1_method_10_code
theorem na_KR_clusterCount : jk_nm mn_KR_clusterCount 0 := ⟨by decide +kernel, by decide +kernel, by decide +kernel⟩
def mn_KR_cordCount : MethodName := ⟨"KnotReader", "cordCount", "()I"⟩
abbrev mb_KR_cordCount : ByteArray := prog_1_method_11_code
theorem na_KR_cordCount : jk_nm mn_KR_cordCount 0 := ⟨by decide +kernel, by decide +kernel, by decide +kernel⟩
def mn_KR_requireCord : MethodName := ⟨"KnotReader", "requireCord", "(I)V"⟩
abbrev mb_KR_requireCord : ByteArray := prog_1_method_60_code
theorem na_KR_requireCord : jk_nm mn_KR_requireCord 1 := ⟨by decide +kernel, by decide +kernel, by decide +kernel⟩
def mn_KR_clusterOf : MethodName := ⟨"KnotReader", "clusterOf", "(I)I"⟩
abbrev mb_KR_clusterOf : ByteArray := prog_1_method_16_code
theorem na_KR_clusterOf : jk_nm mn_KR_clusterOf 1 := ⟨by decide +kernel, by decide +kernel, by decide +kernel⟩
def mn_KR_depthOf : MethodName := ⟨"KnotReader", "depthOf", "(I)I"⟩
abbrev mb_KR_depthOf : ByteArray := prog_1_method_17_code
theorem na_KR_depthOf : jk_nm mn_KR_depthOf 1 := ⟨by decide +kernel, by decide +kernel, by decide +kernel⟩
def mn_KR_topicOf : MethodName := ⟨"KnotReader", "topicOf", "(I)I"⟩
abbrev mb_KR_topicOf : ByteArray := prog_1_method_19_code
theorem na_KR_topicOf : jk_nm mn_KR_topicOf 1 := ⟨by decide +kernel, by decide +kernel, by decide +kernel⟩
def mn_KR_subsidiariesOf : MethodName := ⟨"KnotReader", "subsidiariesOf", "(I)I"⟩
abbrev mb_KR_subsidiariesOf : ByteArray := prog_1_method_20_code
theorem na_KR_subsidiariesOf : jk_nm mn_KR_subsidiariesOf 1 := ⟨by decide +kernel, by decide +kernel, by decide +kernel⟩
def mn_KR_nibbledPlaces : MethodName := ⟨"KnotReader", "nibbledPlaces", "(I)I"⟩
abbrev mb_KR_nibbledPlaces : ByteArray := prog_1_method_21_code
theorem na_KR_nibbledPlaces : jk_nm mn_KR_nibbledPlaces 1 := ⟨by decide +kernel, by decide +kernel, by decide +kernel⟩
def mn_KR_knownValue : MethodName := ⟨"KnotReader", "knownValue", "(I)I"⟩
abbrev mb_KR_knownValue : ByteArray := prog_1_method_22_code
theorem na_KR_knownValue : jk_nm mn_KR_knownValue 1 := ⟨by decide +kernel, by decide +kernel, by decide +kernel⟩
def mn_KR_lowestTotal : MethodName := ⟨"KnotReader", "lowestTotal", "(I)I"⟩
abbrev mb_KR_lowestTotal : ByteArray := prog_1_method_23_code
theorem na_KR_lowestTotal : jk_nm mn_KR_lowestTotal 1 := ⟨by decide +kernel, by decide +kernel, by decide +kernel⟩
def mn_KR_isPlace : MethodName := ⟨"KnotReader", "isPlace", "(I)Z"⟩
abbrev mb_KR_isPlace : ByteArray := prog_1_method_61_code
theorem na_KR_isPlace : jk_nm mn_KR_isPlace 1 := ⟨by decide +kernel, by decide +kernel, by decide +kernel⟩
def mn_KR_knotsAt : MethodName := ⟨"KnotReader", "knotsAt", "(II)I"⟩
abbrev mb_KR_knotsAt : ByteArray := prog_1_method_25_code
theorem na_KR_knotsAt : jk_nm mn_KR_knotsAt 2 := ⟨by decide +kernel, by decide +kernel, by decide +kernel⟩
def mn_KR_isComplete : MethodName := ⟨"KnotReader", "isComplete", "(I)Z"⟩
abbrev mb_KR_isComplete : ByteArray := prog_1_method_26_code
theorem na_KR_isComplete : jk_nm mn_KR_isComplete 1 := ⟨by decide +kernel, by decide +kernel, by decide +kernel⟩
def mn_KR_requireCluster : MethodName := ⟨"KnotReader", "requireCluster", "(I)V"⟩
abbrev mb_KR_requireCluster : ByteArray := prog_1_method_59_code
theorem na_KR_requireCluster : jk_nm mn_KR_requireCluster 1 := ⟨by decide +kernel, by decide +kernel, by decide +kernel⟩
def mn_KR_pendantsIn : MethodName := ⟨"KnotReader", "pendantsIn", "(I)I"⟩
abbrev mb_KR_pendantsIn : ByteArray := prog_1_method_28_code
theorem na_KR_pendantsIn : jk_nm mn_KR_pendantsIn 1 := ⟨by decide +kernel, by decide +kernel, by decide +kernel⟩
def mn_KR_topOf : MethodName := ⟨"KnotReader", "topOf", "(I)I"⟩
abbrev mb_KR_topOf : ByteArray := prog_1_method_30_code
theorem na_KR_topOf : jk_nm mn_KR_topOf 1 := ⟨by decide +kernel, by decide +kernel, by decide +kernel⟩
def mn_KR_stateOf : MethodName := ⟨"KnotReader", "stateOf", "(I)I"⟩
abbrev mb_KR_stateOf : ByteArray := prog_1_method_32_code
theorem na_KR_stateOf : jk_nm mn_KR_stateOf 1 := ⟨by decide +kernel, by decide +kernel, by decide +kernel⟩
def mn_KR_guessObstacle : MethodName := ⟨"KnotReader", "guessObstacle", "(I)I"⟩
abbrev mb_KR_guessObstacle : ByteArray := prog_1_method_33_code
theorem na_KR_guessObstacle : jk_nm mn_KR_guessObstacle 1 := ⟨by decide +kernel, by decide +kernel, by decide +kernel⟩
def mn_KR_guessIn : MethodName := ⟨"KnotReader", "guessIn", "(I)I"⟩
abbrev mb_KR_guessIn : ByteArray := prog_1_method_35_code
theorem na_KR_guessIn : jk_nm mn_KR_guessIn 1 := ⟨by decide +kernel, by decide +kernel, by decide +kernel⟩
def mn_KR_isConsistent : MethodName := ⟨"KnotReader", "isConsistent", "()Z"⟩
abbrev mb_KR_isConsistent : ByteArray := prog_1_method_43_code
theorem na_KR_isConsistent : jk_nm mn_KR_isConsistent 0 := ⟨by decide +kernel, by decide +kernel, by decide +kernel⟩
def mn_KR_perform : MethodName := ⟨"KnotReader", "perform", "(IIII)I"⟩
abbrev mb_KR_perform : ByteArray := prog_1_method_69_code
theorem na_KR_perform : jk_nm mn_KR_perform 4 := ⟨by decide +kernel, by decide +kernel, by decide +kernel⟩
def mn_KR_knotsProblem : MethodName := ⟨"KnotReader", "knotsProblem", "(III)I"⟩
abbrev mb_KR_knotsProblem : ByteArray := prog_1_method_67_code
theorem na_KR_knotsProblem : jk_nm mn_KR_knotsProblem 3 := ⟨by decide +kernel, by decide +kernel, by decide +kernel⟩
def mn_KR_newCordProblem : MethodName := ⟨"KnotReader", "newCordProblem", "(ZZII)I"⟩
abbrev mb_KR_newCordProblem : ByteArray := prog_1_method_65_code
theorem na_KR_newCordProblem : jk_nm mn_KR_newCordProblem 4 := ⟨by decide +kernel, by decide +kernel, by decide +kernel⟩
def mn_KR_nibbleProblem : MethodName := ⟨"KnotReader", "nibbleProblem", "(II)I"⟩
abbrev mb_KR_nibbleProblem : ByteArray := prog_1_method_68_code
theorem na_KR_nibbleProblem : jk_nm mn_KR_nibbleProblem 2 := ⟨by decide +kernel, by decide +kernel, by decide +kernel⟩
def mn_KR_tieProblem : MethodName := ⟨"KnotReader", "tieProblem", "(II)I"⟩
abbrev mb_KR_tieProblem : ByteArray := prog_1_method_66_code
theorem na_KR_tieProblem : jk_nm mn_KR_tieProblem 2 := ⟨by decide +kernel, by decide +kernel, by decide +kernel⟩
def mn_KR_problemOf : MethodName := ⟨"KnotReader", "problemOf", "(IIII)I"⟩
abbrev mb_KR_problemOf : ByteArray := prog_1_method_64_code
theorem na_KR_problemOf : jk_nm mn_KR_problemOf 4 := ⟨by decide +kernel, by decide +kernel, by decide +kernel⟩
def mn_KR_change : MethodName := ⟨"KnotReader", "change", "(IIII)I"⟩
abbrev mb_KR_change : ByteArray := prog_1_method_63_code
theorem na_KR_change : jk_nm mn_KR_change 4 := ⟨by decide +kernel, by decide +kernel, by decide +kernel⟩
def mn_KR_addCluster : MethodName := ⟨"KnotReader", "addCluster", "()I"⟩
abbrev mb_KR_addCluster : ByteArray := prog_1_method_44_code
theorem na_KR_addCluster : jk_nm mn_KR_addCluster 0 := ⟨by decide +kernel, by decide +kernel, by decide +kernel⟩
def mn_KR_addPendant : MethodName := ⟨"KnotReader", "addPendant", "(III)I"⟩
abbrev mb_KR_addPendant : ByteArray := prog_1_method_45_code
theorem na_KR_addPendant : jk_nm mn_KR_addPendant 3 := ⟨by decide +kernel, by decide +kernel, by decide +kernel⟩
def mn_KR_addSubsidiary : MethodName := ⟨"KnotReader", "addSubsidiary", "(III)I"⟩
abbrev mb_KR_addSubsidiary : ByteArray := prog_1_method_46_code
theorem na_KR_addSubsidiary : jk_nm mn_KR_addSubsidiary 3 := ⟨by decide +kernel, by decide +kernel, by decide +kernel⟩
def mn_KR_cut : MethodName := ⟨"KnotReader", "cut", "(I)I"⟩
abbrev mb_KR_cut : ByteArray := prog_1_method_47_code
theorem na_KR_cut : jk_nm mn_KR_cut 1 := ⟨by decide +kernel, by decide +kernel, by decide +kernel⟩
def mn_KR_tieTop : MethodName := ⟨"KnotReader", "tieTop", "(II)I"⟩
abbrev mb_KR_tieTop : ByteArray := prog_1_method_48_code
theorem na_KR_tieTop : jk_nm mn_KR_tieTop 2 := ⟨by decide +kernel, by decide +kernel, by decide +kernel⟩
def mn_KR_setKnots : MethodName := ⟨"KnotReader", "setKnots", "(III)I"⟩
abbrev mb_KR_setKnots : ByteArray := prog_1_method_49_code
theorem na_KR_setKnots : jk_nm mn_KR_setKnots 3 := ⟨by decide +kernel, by decide +kernel, by decide +kernel⟩
def mn_KR_nibble : MethodName := ⟨"KnotReader", "nibble", "(II)I"⟩
abbrev mb_KR_nibble : ByteArray := prog_1_method_50_code
theorem na_KR_nibble : jk_nm mn_KR_nibble 2 := ⟨by decide +kernel, by decide +kernel, by decide +kernel⟩
def mn_KR_dye : MethodName := ⟨"KnotReader", "dye", "(II)I"⟩
abbrev mb_KR_dye : ByteArray := prog_1_method_51_code
theorem na_KR_dye : jk_nm mn_KR_dye 2 := ⟨by decide +kernel, by decide +kernel, by decide +kernel⟩
def mn_KR_repair : MethodName := ⟨"KnotReader", "repair", "(I)I"⟩
abbrev mb_KR_repair : ByteArray := prog_1_method_52_code
theorem na_KR_repair : jk_nm mn_KR_repair 1 := ⟨by decide +kernel, by decide +kernel, by decide +kernel⟩
theorem tm_1 : Jvm.Cond.initialized "KnotReader" ∈ jk_WA := jk_tb 1 (by decide +kernel) (by decide +kernel)
theorem tm_2 : Jvm.Cond.initialized "KnotReader$Text" ∈ jk_WA := jk_tb 2 (by decide +kernel) (by decide +kernel)
theorem tm_3 : Jvm.Cond.initialized "KnotReader$Row" ∈ jk_WA := jk_tb 3 (by decide +kernel) (by decide +kernel)
theorem tm_5 : Jvm.Cond.initialized "KnotReader$Topics" ∈ jk_WA := jk_tb 5 (by decide +kernel) (by decide +kernel)
theorem tm_6 : Jvm.Cond.initialized "KnotReader$Cords" ∈ jk_WA := jk_tb 6 (by decide +kernel) (by decide +kernel)
theorem tm_7 : Jvm.Cond.initialized "KnotReader$History" ∈ jk_WA := jk_tb 7 (by decide +kernel) (by decide +kernel)
theorem tm_13 : Jvm.Cond.initialized "KnotReader$Setup" ∈ jk_WA := jk_tb 13 (by decide +kernel) (by decide +kernel)
theorem tm_14 : Jvm.Cond.initialized "KnotReader$Knots" ∈ jk_WA := jk_tb 14 (by decide +kernel) (by decide +kernel)
theorem tm_35 : Jvm.Cond.initialized "java/lang/IndexOutOfBoundsException" ∈ jk_WA := jk_tb 35 (by decide +kernel) (by decide +kernel)
theorem tm_36 : Jvm.Cond.initialized "java/lang/IllegalArgumentException" ∈ jk_WA := jk_tb 36 (by decide +kernel) (by decide +kernel)
theorem tm_37 : Jvm.Cond.initialized "java/util/NoSuchElementException" ∈ jk_WA := jk_tb 37 (by decide +kernel) (by decide +kernel)
theorem tm_38 : Jvm.Cond.initialized "java/lang/IllegalStateException" ∈ jk_WA := jk_tb 38 (by decide +kernel) (by decide +kernel)
theorem tm_39 : Jvm.Cond.initialized "KnotReader$Check" ∈ jk_WA := jk_tb 39 (by decide +kernel) (by decide +kernel)
theorem tm_60 : Jvm.Cond.fieldLink "KnotReader$Row" (7 : Nat) "KnotReader$Row" "cells" "[I" ∈ jk_WA := jk_tb 60 (by decide +kernel) (by decide +kernel)
theorem tm_65 : Jvm.Cond.fieldLink "KnotReader$Text" (14 : Nat) "KnotReader$Text" "bytes" "LKnotReader$Row;" ∈ jk_WA := jk_tb 65 (by decide +kernel) (by decide +kernel)
theorem tm_66 : Jvm.Cond.fieldLink "KnotReader$Text" (20 : Nat) "KnotReader$Text" "length" "I" ∈ jk_WA := jk_tb 66 (by decide +kernel) (by decide +kernel)
theorem tm_68 : Jvm.Cond.fieldLink "KnotReader$Text" (24 : Nat) "KnotReader$Text" "kind" "I" ∈ jk_WA := jk_tb 68 (by decide +kernel) (by decide +kernel)
theorem tm_69 : Jvm.Cond.fieldLink "KnotReader$Text" (27 : Nat) "KnotReader$Text" "start" "I" ∈ jk_WA := jk_tb 69 (by decide +kernel) (by decide +kernel)
theorem tm_70 : Jvm.Cond.fieldLink "KnotReader$Text" (30 : Nat) "KnotReader$Text" "end" "I" ∈ jk_WA := jk_tb 70 (by decide +kernel) (by decide +kernel)
theorem tm_71 : Jvm.Cond.fieldLink "KnotReader$Text" (33 : Nat) "KnotReader$Text" "code" "I" ∈ jk_WA := jk_tb 71 (by decide +kernel) (by decide +kernel)
theorem tm_73 : Jvm.Cond.fieldLink "KnotReader$Text" (36 : Nat) "KnotReader$Text" "offset" "I" ∈ jk_WA := jk_tb 73 (by decide +kernel) (by decide +kernel)
theorem tm_113 : Jvm.Cond.fieldLink "KnotReader$Topics" (9 : Nat) "KnotReader$Topics" "size" "I" ∈ jk_WA := jk_tb 113 (by decide +kernel) (by decide +kernel)
theorem tm_115 : Jvm.Cond.fieldLink "KnotReader$Topics" (20 : Nat) "KnotReader$Topics" "names" "LKnotReader$Row;" ∈ jk_WA := jk_tb 115 (by decide +kernel) (by decide +kernel)
theorem tm_129 : Jvm.Cond.fieldLink "KnotReader$Cords" (9 : Nat) "KnotReader$Cords" "clusters" "I" ∈ jk_WA := jk_tb 129 (by decide +kernel) (by decide +kernel)
theorem tm_133 : Jvm.Cond.fieldLink "KnotReader$Cords" (15 : Nat) "KnotReader$Cords" "size" "I" ∈ jk_WA := jk_tb 133 (by decide +kernel) (by decide +kernel)
theorem tm_137 : Jvm.Cond.fieldLink "KnotReader$Cords" (23 : Nat) "KnotReader$Cords" "starts" "LKnotReader$Row;" ∈ jk_WA := jk_tb 137 (by decide +kernel) (by decide +kernel)
theorem tm_138 : Jvm.Cond.fieldLink "KnotReader$Cords" (27 : Nat) "KnotReader$Cords" "depth" "LKnotReader$Row;" ∈ jk_WA := jk_tb 138 (by decide +kernel) (by decide +kernel)
theorem tm_141 : Jvm.Cond.fieldLink "KnotReader$Cords" (30 : Nat) "KnotReader$Cords" "topic" "LKnotReader$Row;" ∈ jk_WA := jk_tb 141 (by decide +kernel) (by decide +kernel)
theorem tm_143 : Jvm.Cond.fieldLink "KnotReader$Cords" (33 : Nat) "KnotReader$Cords" "value" "LKnotReader$Row;" ∈ jk_WA := jk_tb 143 (by decide +kernel) (by decide +kernel)
theorem tm_146 : Jvm.Cond.fieldLink "KnotReader$Cords" (36 : Nat) "KnotReader$Cords" "nibbled" "LKnotReader$Row;" ∈ jk_WA := jk_tb 146 (by decide +kernel) (by decide +kernel)
theorem tm_173 : Jvm.Cond.fieldLink "KnotReader$History" (17 : Nat) "KnotReader$History" "latest" "I" ∈ jk_WA := jk_tb 173 (by decide +kernel) (by decide +kernel)
theorem tm_174 : Jvm.Cond.fieldLink "KnotReader$History" (21 : Nat) "KnotReader$History" "size" "I" ∈ jk_WA := jk_tb 174 (by decide +kernel) (by decide +kernel)
theorem tm_259 : Jvm.Cond.methodLink "KnotReader$Text" (48 : Nat) mn_Text_putByte ∈ jk_WA := jk_tb 259 (by decide +kernel) (by decide +kernel)
theorem tm_261 : Jvm.Cond.instanceMethod mn_Text_putByte ∈ jk_WA := jk_tb 261 (by decide +kernel) (by decide +kernel)
theorem tm_262 : Jvm.Cond.code mn_Text_putByte prog_10_method_5_code (2 : Nat) none ∈ jk_WA := jk_tb 262 (by decide +kernel) (by decide +kernel)
theorem tm_263 : Jvm.Cond.methodLink "KnotReader$Text" (51 : Nat) mn_Row_set ∈ jk_WA := jk_tb 263 (by decide +kernel) (by decide +kernel)
theorem tm_264 : Jvm.Cond.instanceMethod mn_Row_set ∈ jk_WA := jk_tb 264 (by decide +kernel) (by decide +kernel)
theorem tm_265 : Jvm.Cond.selects "KnotReader$Row" mn_Row_set mn_Row_set ∈ jk_WA := jk_tb 265 (by decide +kernel) (by decide +kernel)
theorem tm_266 : Jvm.Cond.code mn_Row_set prog_7_method_3_code (3 : Nat) none ∈ jk_WA := jk_tb 266 (by decide +kernel) (by decide +kernel)
theorem tm_267 : Jvm.Cond.methodLink "KnotReader" (77 : Nat) mn_Setup_parse ∈ jk_WA := jk_tb 267 (by decide +kernel) (by decide +kernel)
theorem tm_268 : Jvm.Cond.static mn_Setup_parse ∈ jk_WA := jk_tb 268 (by decide +kernel) (by decide +kernel)
theorem tm_269 : Jvm.Cond.code mn_Setup_parse prog_9_method_2_code (4 : Nat) none ∈ jk_WA := jk_tb 269 (by decide +kernel) (by decide +kernel)
theorem tm_270 : Jvm.Cond.methodLink "KnotReader$Setup" (9 : Nat) mn_Text_begin ∈ jk_WA := jk_tb 270 (by decide +kernel) (by decide +kernel)
theorem tm_271 : Jvm.Cond.instanceMethod mn_Text_begin ∈ jk_WA := jk_tb 271 (by decide +kernel) (by decide +kernel)
theorem tm_272 : Jvm.Cond.selects "KnotReader$Text" mn_Text_begin mn_Text_begin ∈ jk_WA := jk_tb 272 (by decide +kernel) (by decide +kernel)
theorem tm_273 : Jvm.Cond.code mn_Text_begin prog_10_method_6_code (1 : Nat) none ∈ jk_WA := jk_tb 273 (by decide +kernel) (by decide +kernel)
theorem tm_274 : Jvm.Cond.methodLink "KnotReader$Setup" (14 : Nat) mn_Topics_clear ∈ jk_WA := jk_tb 274 (by decide +kernel) (by decide +kernel)
theorem tm_275 : Jvm.Cond.instanceMethod mn_Topics_clear ∈ jk_WA := jk_tb 275 (by decide +kernel) (by decide +kernel)
theorem tm_276 : Jvm.Cond.selects "KnotReader$Topics" mn_Topics_clear mn_Topics_clear ∈ jk_WA := jk_tb 276 (by decide +kernel) (by decide +kernel)
theorem tm_277 : Jvm.Cond.code mn_Topics_clear prog_11_method_2_code (1 : Nat) none ∈ jk_WA := jk_tb 277 (by decide +kernel) (by decide +kernel)
theorem tm_278 : Jvm.Cond.methodLink "KnotReader$Setup" (19 : Nat) mn_Cords_clear ∈ jk_WA := jk_tb 278 (by decide +kernel) (by decide +kernel)
theorem tm_279 : Jvm.Cond.instanceMethod mn_Cords_clear ∈ jk_WA := jk_tb 279 (by decide +kernel) (by decide +kernel)
theorem tm_280 : Jvm.Cond.selects "KnotReader$Cords" mn_Cords_clear mn_Cords_clear ∈ jk_WA := jk_tb 280 (by decide +kernel) (by decide +kernel)
theorem tm_281 : Jvm.Cond.code mn_Cords_clear prog_3_method_2_code (1 : Nat) none ∈ jk_WA := jk_tb 281 (by decide +kernel) (by decide +kernel)
theorem tm_282 : Jvm.Cond.methodLink "KnotReader$Setup" (22 : Nat) mn_Text_nextStatement ∈ jk_WA := jk_tb 282 (by decide +kernel) (by decide +kernel)
theorem tm_283 : Jvm.Cond.instanceMethod mn_Text_nextStatement ∈ jk_WA := jk_tb 283 (by decide +kernel) (by decide +kernel)
theorem tm_284 : Jvm.Cond.selects "KnotReader$Text" mn_Text_nextStatement mn_Text_nextStatement ∈ jk_WA := jk_tb 284 (by decide +kernel) (by decide +kernel)
theorem tm_285 : Jvm.Cond.code mn_Text_nextStatement prog_10_method_11_code (1 : Nat) (some .boolean) ∈ jk_WA := jk_tb 285 (by decide +kernel) (by decide +kernel)
theorem tm_286 : Jvm.Cond.methodLink "KnotReader$Text" (62 : Nat) mn_Text_hasFailed ∈ jk_WA := jk_tb 286 (by decide +kernel) (by decide +kernel)
theorem tm_287 : Jvm.Cond.instanceMethod mn_Text_hasFailed ∈ jk_WA := jk_tb 287 (by decide +kernel) (by decide +kernel)
theorem tm_288 : Jvm.Cond.selects "KnotReader$Text" mn_Text_hasFailed mn_Text_hasFailed ∈ jk_WA := jk_tb 288 (by decide +kernel) (by decide +kernel)
theorem tm_289 : Jvm.Cond.code mn_Text_hasFailed prog_10_method_7_code (1 : Nat) (some .boolean) ∈ jk_WA := jk_tb 289 (by decide +kernel) (by decide +kernel)
theorem tm_290 : Jvm.Cond.methodLink "KnotReader$Text" (66 : Nat) mn_Text_next ∈ jk_WA := jk_tb 290 (by decide +kernel) (by decide +kernel)
theorem tm_291 : Jvm.Cond.instanceMethod mn_Text_next ∈ jk_WA := jk_tb 291 (by decide +kernel) (by decide +kernel)
theorem tm_292 : Jvm.Cond.selects "KnotReader$Text" mn_Text_next mn_Text_next ∈ jk_WA := jk_tb 292 (by decide +kernel) (by decide +kernel)
theorem tm_293 : Jvm.Cond.code mn_Text_next prog_10_method_9_code (2 : Nat) none ∈ jk_WA := jk_tb 293 (by decide +kernel) (by decide +kernel)
theorem tm_294 : Jvm.Cond.methodLink "KnotReader$Text" (55 : Nat) mn_Text_sortAt ∈ jk_WA := jk_tb 294 (by decide +kernel) (by decide +kernel)
theorem tm_296 : Jvm.Cond.instanceMethod mn_Text_sortAt ∈ jk_WA := jk_tb 296 (by decide +kernel) (by decide +kernel)
theorem tm_297 : Jvm.Cond.code mn_Text_sortAt prog_10_method_10_code (3 : Nat) (some .int) ∈ jk_WA := jk_tb 297 (by decide +kernel) (by decide +kernel)
theorem tm_298 : Jvm.Cond.methodLink "KnotReader$Text" (59 : Nat) mn_Row_get ∈ jk_WA := jk_tb 298 (by decide +kernel) (by decide +kernel)
theorem tm_299 : Jvm.Cond.instanceMethod mn_Row_get ∈ jk_WA := jk_tb 299 (by decide +kernel) (by decide +kernel)
theorem tm_300 : Jvm.Cond.selects "KnotReader$Row" mn_Row_get mn_Row_get ∈ jk_WA := jk_tb 300 (by decide +kernel) (by decide +kernel)
theorem tm_301 : Jvm.Cond.code mn_Row_get prog_7_method_2_code (2 : Nat) (some .int) ∈ jk_WA := jk_tb 301 (by decide +kernel) (by decide +kernel)
theorem tm_303 : Jvm.Cond.methodLink "KnotReader$Setup" (28 : Nat) mn_Text_isWord ∈ jk_WA := jk_tb 303 (by decide +kernel) (by decide +kernel)
theorem tm_304 : Jvm.Cond.instanceMethod mn_Text_isWord ∈ jk_WA := jk_tb 304 (by decide +kernel) (by decide +kernel)
theorem tm_305 : Jvm.Cond.selects "KnotReader$Text" mn_Text_isWord mn_Text_isWord ∈ jk_WA := jk_tb 305 (by decide +kernel) (by decide +kernel)
theorem tm_306 : Jvm.Cond.code mn_Text_isWord prog_10_method_12_code (3 : Nat) (some .boolean) ∈ jk_WA := jk_tb 306 (by decide +kernel) (by decide +kernel)
theorem tm_307 : Jvm.Cond.methodLink "KnotReader$Setup" (32 : Nat) mn_Setup_readTopic ∈ jk_WA := jk_tb 307 (by decide +kernel) (by decide +kernel)
theorem tm_308 : Jvm.Cond.static mn_Setup_readTopic ∈ jk_WA := jk_tb 308 (by decide +kernel) (by decide +kernel)
theorem tm_309 : Jvm.Cond.code mn_Setup_readTopic prog_9_method_3_code (2 : Nat) none ∈ jk_WA := jk_tb 309 (by decide +kernel) (by decide +kernel)
theorem tm_310 : Jvm.Cond.methodLink "KnotReader$Setup" (52 : Nat) mn_Text_fail ∈ jk_WA := jk_tb 310 (by decide +kernel) (by decide +kernel)
theorem tm_311 : Jvm.Cond.instanceMethod mn_Text_fail ∈ jk_WA := jk_tb 311 (by decide +kernel) (by decide +kernel)
theorem tm_312 : Jvm.Cond.selects "KnotReader$Text" mn_Text_fail mn_Text_fail ∈ jk_WA := jk_tb 312 (by decide +kernel) (by decide +kernel)
theorem tm_313 : Jvm.Cond.code mn_Text_fail prog_10_method_8_code (2 : Nat) none ∈ jk_WA := jk_tb 313 (by decide +kernel) (by decide +kernel)
theorem tm_314 : Jvm.Cond.methodLink "KnotReader$Setup" (56 : Nat) mn_Text_readNewTopic ∈ jk_WA := jk_tb 314 (by decide +kernel) (by decide +kernel)
theorem tm_315 : Jvm.Cond.instanceMethod mn_Text_readNewTopic ∈ jk_WA := jk_tb 315 (by decide +kernel) (by decide +kernel)
theorem tm_316 : Jvm.Cond.selects "KnotReader$Text" mn_Text_readNewTopic mn_Text_readNewTopic ∈ jk_WA := jk_tb 316 (by decide +kernel) (by decide +kernel)
theorem tm_317 : Jvm.Cond.code mn_Text_readNewTopic prog_10_method_15_code (3 : Nat) none ∈ jk_WA := jk_tb 317 (by decide +kernel) (by decide +kernel)
theorem tm_318 : Jvm.Cond.methodLink "KnotReader$Text" (72 : Nat) mn_Text_name ∈ jk_WA := jk_tb 318 (by decide +kernel) (by decide +kernel)
theorem tm_320 : Jvm.Cond.instanceMethod mn_Text_name ∈ jk_WA := jk_tb 320 (by decide +kernel) (by decide +kernel)
theorem tm_321 : Jvm.Cond.code mn_Text_name prog_10_method_16_code (3 : Nat) (some .int) ∈ jk_WA := jk_tb 321 (by decide +kernel) (by decide +kernel)
theorem tm_322 : Jvm.Cond.methodLink "KnotReader$Text" (69 : Nat) mn_Text_fail ∈ jk_WA := jk_tb 322 (by decide +kernel) (by decide +kernel)
theorem tm_323 : Jvm.Cond.methodLink "KnotReader$Text" (75 : Nat) mn_Topics_find ∈ jk_WA := jk_tb 323 (by decide +kernel) (by decide +kernel)
theorem tm_324 : Jvm.Cond.instanceMethod mn_Topics_find ∈ jk_WA := jk_tb 324 (by decide +kernel) (by decide +kernel)
theorem tm_325 : Jvm.Cond.selects "KnotReader$Topics" mn_Topics_find mn_Topics_find ∈ jk_WA := jk_tb 325 (by decide +kernel) (by decide +kernel)
theorem tm_326 : Jvm.Cond.code mn_Topics_find prog_11_method_6_code (3 : Nat) (some .int) ∈ jk_WA := jk_tb 326 (by decide +kernel) (by decide +kernel)
theorem tm_327 : Jvm.Cond.methodLink "KnotReader$Topics" (28 : Nat) mn_Row_get ∈ jk_WA := jk_tb 327 (by decide +kernel) (by decide +kernel)
theorem tm_328 : Jvm.Cond.methodLink "KnotReader$Text" (80 : Nat) mn_Topics_add ∈ jk_WA := jk_tb 328 (by decide +kernel) (by decide +kernel)
theorem tm_329 : Jvm.Cond.instanceMethod mn_Topics_add ∈ jk_WA := jk_tb 329 (by decide +kernel) (by decide +kernel)
theorem tm_330 : Jvm.Cond.selects "KnotReader$Topics" mn_Topics_add mn_Topics_add ∈ jk_WA := jk_tb 330 (by decide +kernel) (by decide +kernel)
theorem tm_331 : Jvm.Cond.code mn_Topics_add prog_11_method_7_code (2 : Nat) none ∈ jk_WA := jk_tb 331 (by decide +kernel) (by decide +kernel)
theorem tm_332 : Jvm.Cond.methodLink "KnotReader$Topics" (32 : Nat) mn_Row_set ∈ jk_WA := jk_tb 332 (by decide +kernel) (by decide +kernel)
theorem tm_333 : Jvm.Cond.methodLink "KnotReader$Setup" (60 : Nat) mn_Text_readSemicolon ∈ jk_WA := jk_tb 333 (by decide +kernel) (by decide +kernel)
theorem tm_334 : Jvm.Cond.instanceMethod mn_Text_readSemicolon ∈ jk_WA := jk_tb 334 (by decide +kernel) (by decide +kernel)
theorem tm_335 : Jvm.Cond.selects "KnotReader$Text" mn_Text_readSemicolon mn_Text_readSemicolon ∈ jk_WA := jk_tb 335 (by decide +kernel) (by decide +kernel)
theorem tm_336 : Jvm.Cond.code mn_Text_readSemicolon prog_10_method_18_code (1 : Nat) none ∈ jk_WA := jk_tb 336 (by decide +kernel) (by decide +kernel)
theorem tm_338 : Jvm.Cond.methodLink "KnotReader$Setup" (40 : Nat) mn_Setup_readCluster ∈ jk_WA := jk_tb 338 (by decide +kernel) (by decide +kernel)
theorem tm_339 : Jvm.Cond.static mn_Setup_readCluster ∈ jk_WA := jk_tb 339 (by decide +kernel) (by decide +kernel)
theorem tm_340 : Jvm.Cond.code mn_Setup_readCluster prog_9_method_4_code (2 : Nat) none ∈ jk_WA := jk_tb 340 (by decide +kernel) (by decide +kernel)
theorem tm_341 : Jvm.Cond.methodLink "KnotReader$Setup" (66 : Nat) mn_Cords_openCluster ∈ jk_WA := jk_tb 341 (by decide +kernel) (by decide +kernel)
theorem tm_342 : Jvm.Cond.instanceMethod mn_Cords_openCluster ∈ jk_WA := jk_tb 342 (by decide +kernel) (by decide +kernel)
theorem tm_343 : Jvm.Cond.selects "KnotReader$Cords" mn_Cords_openCluster mn_Cords_openCluster ∈ jk_WA := jk_tb 343 (by decide +kernel) (by decide +kernel)
theorem tm_344 : Jvm.Cond.code mn_Cords_openCluster prog_3_method_27_code (1 : Nat) (some .int) ∈ jk_WA := jk_tb 344 (by decide +kernel) (by decide +kernel)
theorem tm_345 : Jvm.Cond.methodLink "KnotReader$Cords" (95 : Nat) mn_Row_set ∈ jk_WA := jk_tb 345 (by decide +kernel) (by decide +kernel)
theorem tm_346 : Jvm.Cond.methodLink "KnotReader$Setup" (44 : Nat) mn_Setup_readCord ∈ jk_WA := jk_tb 346 (by decide +kernel) (by decide +kernel)
theorem tm_347 : Jvm.Cond.static mn_Setup_readCord ∈ jk_WA := jk_tb 347 (by decide +kernel) (by decide +kernel)
theorem tm_348 : Jvm.Cond.code mn_Setup_readCord prog_9_method_5_code (8 : Nat) none ∈ jk_WA := jk_tb 348 (by decide +kernel) (by decide +kernel)
theorem tm_349 : Jvm.Cond.methodLink "KnotReader$Setup" (70 : Nat) mn_Setup_checkFirstWord ∈ jk_WA := jk_tb 349 (by decide +kernel) (by decide +kernel)
theorem tm_350 : Jvm.Cond.static mn_Setup_checkFirstWord ∈ jk_WA := jk_tb 350 (by decide +kernel) (by decide +kernel)
theorem tm_351 : Jvm.Cond.code mn_Setup_checkFirstWord prog_9_method_6_code (3 : Nat) none ∈ jk_WA := jk_tb 351 (by decide +kernel) (by decide +kernel)
theorem tm_355 : Jvm.Cond.methodLink "KnotReader$Setup" (105 : Nat) mn_Cords_hasTop ∈ jk_WA := jk_tb 355 (by decide +kernel) (by decide +kernel)
theorem tm_356 : Jvm.Cond.instanceMethod mn_Cords_hasTop ∈ jk_WA := jk_tb 356 (by decide +kernel) (by decide +kernel)
theorem tm_357 : Jvm.Cond.selects "KnotReader$Cords" mn_Cords_hasTop mn_Cords_hasTop ∈ jk_WA := jk_tb 357 (by decide +kernel) (by decide +kernel)
theorem tm_358 : Jvm.Cond.code mn_Cords_hasTop prog_3_method_11_code (2 : Nat) (some .boolean) ∈ jk_WA := jk_tb 358 (by decide +kernel) (by decide +kernel)
theorem tm_359 : Jvm.Cond.methodLink "KnotReader$Cords" (47 : Nat) mn_Cords_pendantStart ∈ jk_WA := jk_tb 359 (by decide +kernel) (by decide +kernel)
theorem tm_360 : Jvm.Cond.instanceMethod mn_Cords_pendantStart ∈ jk_WA := jk_tb 360 (by decide +kernel) (by decide +kernel)
theorem tm_361 : Jvm.Cond.selects "KnotReader$Cords" mn_Cords_pendantStart mn_Cords_pendantStart ∈ jk_WA := jk_tb 361 (by decide +kernel) (by decide +kernel)
theorem tm_362 : Jvm.Cond.code mn_Cords_pendantStart prog_3_method_10_code (3 : Nat) (some .int) ∈ jk_WA := jk_tb 362 (by decide +kernel) (by decide +kernel)
theorem tm_363 : Jvm.Cond.methodLink "KnotReader$Cords" (43 : Nat) mn_Row_get ∈ jk_WA := jk_tb 363 (by decide +kernel) (by decide +kernel)
theorem tm_364 : Jvm.Cond.methodLink "KnotReader$Setup" (77 : Nat) mn_Text_readNumber ∈ jk_WA := jk_tb 364 (by decide +kernel) (by decide +kernel)
theorem tm_365 : Jvm.Cond.instanceMethod mn_Text_readNumber ∈ jk_WA := jk_tb 365 (by decide +kernel) (by decide +kernel)
theorem tm_366 : Jvm.Cond.selects "KnotReader$Text" mn_Text_readNumber mn_Text_readNumber ∈ jk_WA := jk_tb 366 (by decide +kernel) (by decide +kernel)
theorem tm_367 : Jvm.Cond.code mn_Text_readNumber prog_10_method_13_code (5 : Nat) (some .int) ∈ jk_WA := jk_tb 367 (by decide +kernel) (by decide +kernel)
theorem tm_368 : Jvm.Cond.methodLink "KnotReader$Setup" (81 : Nat) mn_Setup_placeFor ∈ jk_WA := jk_tb 368 (by decide +kernel) (by decide +kernel)
theorem tm_369 : Jvm.Cond.static mn_Setup_placeFor ∈ jk_WA := jk_tb 369 (by decide +kernel) (by decide +kernel)
theorem tm_370 : Jvm.Cond.code mn_Setup_placeFor prog_9_method_7_code (4 : Nat) (some .int) ∈ jk_WA := jk_tb 370 (by decide +kernel) (by decide +kernel)
theorem tm_371 : Jvm.Cond.methodLink "KnotReader$Setup" (110 : Nat) mn_Cords_start ∈ jk_WA := jk_tb 371 (by decide +kernel) (by decide +kernel)
theorem tm_372 : Jvm.Cond.instanceMethod mn_Cords_start ∈ jk_WA := jk_tb 372 (by decide +kernel) (by decide +kernel)
theorem tm_373 : Jvm.Cond.selects "KnotReader$Cords" mn_Cords_start mn_Cords_start ∈ jk_WA := jk_tb 373 (by decide +kernel) (by decide +kernel)
theorem tm_374 : Jvm.Cond.code mn_Cords_start prog_3_method_7_code (2 : Nat) (some .int) ∈ jk_WA := jk_tb 374 (by decide +kernel) (by decide +kernel)
theorem tm_375 : Jvm.Cond.methodLink "KnotReader$Setup" (114 : Nat) mn_Cords_latestAtDepth ∈ jk_WA := jk_tb 375 (by decide +kernel) (by decide +kernel)
theorem tm_376 : Jvm.Cond.instanceMethod mn_Cords_latestAtDepth ∈ jk_WA := jk_tb 376 (by decide +kernel) (by decide +kernel)
theorem tm_377 : Jvm.Cond.selects "KnotReader$Cords" mn_Cords_latestAtDepth mn_Cords_latestAtDepth ∈ jk_WA := jk_tb 377 (by decide +kernel) (by decide +kernel)
theorem tm_378 : Jvm.Cond.code mn_Cords_latestAtDepth prog_3_method_14_code (5 : Nat) (some .int) ∈ jk_WA := jk_tb 378 (by decide +kernel) (by decide +kernel)
theorem tm_379 : Jvm.Cond.methodLink "KnotReader$Setup" (118 : Nat) mn_Cords_branchEnd ∈ jk_WA := jk_tb 379 (by decide +kernel) (by decide +kernel)
theorem tm_380 : Jvm.Cond.instanceMethod mn_Cords_branchEnd ∈ jk_WA := jk_tb 380 (by decide +kernel) (by decide +kernel)
theorem tm_381 : Jvm.Cond.selects "KnotReader$Cords" mn_Cords_branchEnd mn_Cords_branchEnd ∈ jk_WA := jk_tb 381 (by decide +kernel) (by decide +kernel)
theorem tm_382 : Jvm.Cond.code mn_Cords_branchEnd prog_3_method_12_code (3 : Nat) (some .int) ∈ jk_WA := jk_tb 382 (by decide +kernel) (by decide +kernel)
theorem tm_383 : Jvm.Cond.methodLink "KnotReader$Setup" (85 : Nat) mn_Text_readTopic ∈ jk_WA := jk_tb 383 (by decide +kernel) (by decide +kernel)
theorem tm_384 : Jvm.Cond.instanceMethod mn_Text_readTopic ∈ jk_WA := jk_tb 384 (by decide +kernel) (by decide +kernel)
theorem tm_385 : Jvm.Cond.selects "KnotReader$Text" mn_Text_readTopic mn_Text_readTopic ∈ jk_WA := jk_tb 385 (by decide +kernel) (by decide +kernel)
theorem tm_386 : Jvm.Cond.code mn_Text_readTopic prog_10_method_14_code (3 : Nat) (some .int) ∈ jk_WA := jk_tb 386 (by decide +kernel) (by decide +kernel)
theorem tm_388 : Jvm.Cond.methodLink "KnotReader$Setup" (90 : Nat) mn_Text_takesWord ∈ jk_WA := jk_tb 388 (by decide +kernel) (by decide +kernel)
theorem tm_389 : Jvm.Cond.instanceMethod mn_Text_takesWord ∈ jk_WA := jk_tb 389 (by decide +kernel) (by decide +kernel)
theorem tm_390 : Jvm.Cond.selects "KnotReader$Text" mn_Text_takesWord mn_Text_takesWord ∈ jk_WA := jk_tb 390 (by decide +kernel) (by decide +kernel)
theorem tm_391 : Jvm.Cond.code mn_Text_takesWord prog_10_method_17_code (2 : Nat) (some .boolean) ∈ jk_WA := jk_tb 391 (by decide +kernel) (by decide +kernel)
theorem tm_392 : Jvm.Cond.methodLink "KnotReader$Text" (83 : Nat) mn_Text_isWord ∈ jk_WA := jk_tb 392 (by decide +kernel) (by decide +kernel)
theorem tm_393 : Jvm.Cond.methodLink "KnotReader$Setup" (93 : Nat) mn_Text_hasFailed ∈ jk_WA := jk_tb 393 (by decide +kernel) (by decide +kernel)
theorem tm_394 : Jvm.Cond.methodLink "KnotReader$Setup" (96 : Nat) mn_Cords_insert ∈ jk_WA := jk_tb 394 (by decide +kernel) (by decide +kernel)
theorem tm_395 : Jvm.Cond.instanceMethod mn_Cords_insert ∈ jk_WA := jk_tb 395 (by decide +kernel) (by decide +kernel)
theorem tm_396 : Jvm.Cond.selects "KnotReader$Cords" mn_Cords_insert mn_Cords_insert ∈ jk_WA := jk_tb 396 (by decide +kernel) (by decide +kernel)
theorem tm_397 : Jvm.Cond.code mn_Cords_insert prog_3_method_28_code (6 : Nat) (some .int) ∈ jk_WA := jk_tb 397 (by decide +kernel) (by decide +kernel)
theorem tm_398 : Jvm.Cond.methodLink "KnotReader$Cords" (99 : Nat) mn_Row_insert ∈ jk_WA := jk_tb 398 (by decide +kernel) (by decide +kernel)
theorem tm_399 : Jvm.Cond.instanceMethod mn_Row_insert ∈ jk_WA := jk_tb 399 (by decide +kernel) (by decide +kernel)
theorem tm_400 : Jvm.Cond.selects "KnotReader$Row" mn_Row_insert mn_Row_insert ∈ jk_WA := jk_tb 400 (by decide +kernel) (by decide +kernel)
theorem tm_401 : Jvm.Cond.code mn_Row_insert prog_7_method_6_code (5 : Nat) none ∈ jk_WA := jk_tb 401 (by decide +kernel) (by decide +kernel)
theorem tm_402 : Jvm.Cond.methodLink "KnotReader$Row" (13 : Nat) mn_Row_get ∈ jk_WA := jk_tb 402 (by decide +kernel) (by decide +kernel)
theorem tm_403 : Jvm.Cond.methodLink "KnotReader$Row" (17 : Nat) mn_Row_set ∈ jk_WA := jk_tb 403 (by decide +kernel) (by decide +kernel)
theorem tm_404 : Jvm.Cond.methodLink "KnotReader$Cords" (103 : Nat) mn_Cords_resize ∈ jk_WA := jk_tb 404 (by decide +kernel) (by decide +kernel)
theorem tm_406 : Jvm.Cond.instanceMethod mn_Cords_resize ∈ jk_WA := jk_tb 406 (by decide +kernel) (by decide +kernel)
theorem tm_407 : Jvm.Cond.code mn_Cords_resize prog_3_method_30_code (4 : Nat) none ∈ jk_WA := jk_tb 407 (by decide +kernel) (by decide +kernel)
theorem tm_408 : Jvm.Cond.methodLink "KnotReader$Setup" (100 : Nat) mn_Cords_loseKnots ∈ jk_WA := jk_tb 408 (by decide +kernel) (by decide +kernel)
theorem tm_409 : Jvm.Cond.instanceMethod mn_Cords_loseKnots ∈ jk_WA := jk_tb 409 (by decide +kernel) (by decide +kernel)
theorem tm_410 : Jvm.Cond.selects "KnotReader$Cords" mn_Cords_loseKnots mn_Cords_loseKnots ∈ jk_WA := jk_tb 410 (by decide +kernel) (by decide +kernel)
theorem tm_411 : Jvm.Cond.code mn_Cords_loseKnots prog_3_method_33_code (4 : Nat) (some .int) ∈ jk_WA := jk_tb 411 (by decide +kernel) (by decide +kernel)
theorem tm_412 : Jvm.Cond.methodLink "KnotReader$Cords" (118 : Nat) mn_Knots_sum ∈ jk_WA := jk_tb 412 (by decide +kernel) (by decide +kernel)
theorem tm_413 : Jvm.Cond.static mn_Knots_sum ∈ jk_WA := jk_tb 413 (by decide +kernel) (by decide +kernel)
theorem tm_414 : Jvm.Cond.code mn_Knots_sum prog_5_method_4_code (3 : Nat) (some .int) ∈ jk_WA := jk_tb 414 (by decide +kernel) (by decide +kernel)
theorem tm_415 : Jvm.Cond.methodLink "KnotReader$Knots" (15 : Nat) mn_Knots_at ∈ jk_WA := jk_tb 415 (by decide +kernel) (by decide +kernel)
theorem tm_416 : Jvm.Cond.static mn_Knots_at ∈ jk_WA := jk_tb 416 (by decide +kernel) (by decide +kernel)
theorem tm_417 : Jvm.Cond.code mn_Knots_at prog_5_method_3_code (2 : Nat) (some .int) ∈ jk_WA := jk_tb 417 (by decide +kernel) (by decide +kernel)
theorem tm_418 : Jvm.Cond.methodLink "KnotReader$Knots" (9 : Nat) mn_Knots_withoutLast ∈ jk_WA := jk_tb 418 (by decide +kernel) (by decide +kernel)
theorem tm_419 : Jvm.Cond.static mn_Knots_withoutLast ∈ jk_WA := jk_tb 419 (by decide +kernel) (by decide +kernel)
theorem tm_420 : Jvm.Cond.code mn_Knots_withoutLast prog_5_method_6_code (4 : Nat) (some .int) ∈ jk_WA := jk_tb 420 (by decide +kernel) (by decide +kernel)
theorem tm_421 : Jvm.Cond.methodLink "KnotReader$Cords" (92 : Nat) mn_Knots_lose ∈ jk_WA := jk_tb 421 (by decide +kernel) (by decide +kernel)
theorem tm_422 : Jvm.Cond.static mn_Knots_lose ∈ jk_WA := jk_tb 422 (by decide +kernel) (by decide +kernel)
theorem tm_423 : Jvm.Cond.code mn_Knots_lose prog_5_method_5_code (2 : Nat) (some .int) ∈ jk_WA := jk_tb 423 (by decide +kernel) (by decide +kernel)
theorem tm_424 : Jvm.Cond.methodLink "KnotReader$Knots" (18 : Nat) mn_Knots_power ∈ jk_WA := jk_tb 424 (by decide +kernel) (by decide +kernel)
theorem tm_425 : Jvm.Cond.static mn_Knots_power ∈ jk_WA := jk_tb 425 (by decide +kernel) (by decide +kernel)
theorem tm_426 : Jvm.Cond.code mn_Knots_power prog_5_method_2_code (1 : Nat) (some .int) ∈ jk_WA := jk_tb 426 (by decide +kernel) (by decide +kernel)
theorem tm_427 : Jvm.Cond.methodLink "KnotReader" (83 : Nat) mn_Text_clear ∈ jk_WA := jk_tb 427 (by decide +kernel) (by decide +kernel)
theorem tm_428 : Jvm.Cond.instanceMethod mn_Text_clear ∈ jk_WA := jk_tb 428 (by decide +kernel) (by decide +kernel)
theorem tm_429 : Jvm.Cond.selects "KnotReader$Text" mn_Text_clear mn_Text_clear ∈ jk_WA := jk_tb 429 (by decide +kernel) (by decide +kernel)
theorem tm_430 : Jvm.Cond.code mn_Text_clear prog_10_method_2_code (1 : Nat) none ∈ jk_WA := jk_tb 430 (by decide +kernel) (by decide +kernel)
theorem tm_431 : Jvm.Cond.fieldLink "KnotReader" (12 : Nat) "KnotReader" "input" "LKnotReader$Text;" ∈ jk_WA := jk_tb 431 (by decide +kernel) (by decide +kernel)
theorem tm_433 : Jvm.Cond.fieldLink "KnotReader" (26 : Nat) "KnotReader" "topics" "LKnotReader$Topics;" ∈ jk_WA := jk_tb 433 (by decide +kernel) (by decide +kernel)
theorem tm_434 : Jvm.Cond.fieldLink "KnotReader" (33 : Nat) "KnotReader" "cords" "LKnotReader$Cords;" ∈ jk_WA := jk_tb 434 (by decide +kernel) (by decide +kernel)
theorem tm_435 : Jvm.Cond.fieldLink "KnotReader" (37 : Nat) "KnotReader" "draftTopics" "LKnotReader$Topics;" ∈ jk_WA := jk_tb 435 (by decide +kernel) (by decide +kernel)
theorem tm_436 : Jvm.Cond.fieldLink "KnotReader" (40 : Nat) "KnotReader" "draft" "LKnotReader$Cords;" ∈ jk_WA := jk_tb 436 (by decide +kernel) (by decide +kernel)
theorem tm_438 : Jvm.Cond.fieldLink "KnotReader" (49 : Nat) "KnotReader" "history" "LKnotReader$History;" ∈ jk_WA := jk_tb 438 (by decide +kernel) (by decide +kernel)
theorem tm_440 : Jvm.Cond.fieldLink "KnotReader" (60 : Nat) "KnotReader" "hasSaved" "Z" ∈ jk_WA := jk_tb 440 (by decide +kernel) (by decide +kernel)
theorem tm_441 : Jvm.Cond.fieldLink "KnotReader" (64 : Nat) "KnotReader" "reportedCode" "I" ∈ jk_WA := jk_tb 441 (by decide +kernel) (by decide +kernel)
theorem tm_442 : Jvm.Cond.fieldLink "KnotReader" (68 : Nat) "KnotReader" "reportedOffset" "I" ∈ jk_WA := jk_tb 442 (by decide +kernel) (by decide +kernel)
theorem tm_473 : Jvm.Cond.methodLink "KnotReader" (93 : Nat) mn_KR_closeText ∈ jk_WA := jk_tb 473 (by decide +kernel) (by decide +kernel)
theorem tm_475 : Jvm.Cond.instanceMethod mn_KR_closeText ∈ jk_WA := jk_tb 475 (by decide +kernel) (by decide +kernel)
theorem tm_476 : Jvm.Cond.code mn_KR_closeText prog_1_method_6_code (1 : Nat) (some .boolean) ∈ jk_WA := jk_tb 476 (by decide +kernel) (by decide +kernel)
theorem tm_477 : Jvm.Cond.methodLink "KnotReader" (97 : Nat) mn_Topics_copyFrom ∈ jk_WA := jk_tb 477 (by decide +kernel) (by decide +kernel)
theorem tm_478 : Jvm.Cond.instanceMethod mn_Topics_copyFrom ∈ jk_WA := jk_tb 478 (by decide +kernel) (by decide +kernel)
theorem tm_479 : Jvm.Cond.selects "KnotReader$Topics" mn_Topics_copyFrom mn_Topics_copyFrom ∈ jk_WA := jk_tb 479 (by decide +kernel) (by decide +kernel)
theorem tm_480 : Jvm.Cond.code mn_Topics_copyFrom prog_11_method_3_code (2 : Nat) none ∈ jk_WA := jk_tb 480 (by decide +kernel) (by decide +kernel)
theorem tm_481 : Jvm.Cond.methodLink "KnotReader$Topics" (24 : Nat) mn_Row_copyFrom ∈ jk_WA := jk_tb 481 (by decide +kernel) (by decide +kernel)
theorem tm_482 : Jvm.Cond.instanceMethod mn_Row_copyFrom ∈ jk_WA := jk_tb 482 (by decide +kernel) (by decide +kernel)
theorem tm_483 : Jvm.Cond.selects "KnotReader$Row" mn_Row_copyFrom mn_Row_copyFrom ∈ jk_WA := jk_tb 483 (by decide +kernel) (by decide +kernel)
theorem tm_484 : Jvm.Cond.code mn_Row_copyFrom prog_7_method_5_code (3 : Nat) none ∈ jk_WA := jk_tb 484 (by decide +kernel) (by decide +kernel)
theorem tm_485 : Jvm.Cond.methodLink "KnotReader" (101 : Nat) mn_Cords_copyFrom ∈ jk_WA := jk_tb 485 (by decide +kernel) (by decide +kernel)
theorem tm_486 : Jvm.Cond.instanceMethod mn_Cords_copyFrom ∈ jk_WA := jk_tb 486 (by decide +kernel) (by decide +kernel)
theorem tm_487 : Jvm.Cond.selects "KnotReader$Cords" mn_Cords_copyFrom mn_Cords_copyFrom ∈ jk_WA := jk_tb 487 (by decide +kernel) (by decide +kernel)
theorem tm_488 : Jvm.Cond.code mn_Cords_copyFrom prog_3_method_3_code (2 : Nat) none ∈ jk_WA := jk_tb 488 (by decide +kernel) (by decide +kernel)
theorem tm_489 : Jvm.Cond.methodLink "KnotReader$Cords" (39 : Nat) mn_Row_copyFrom ∈ jk_WA := jk_tb 489 (by decide +kernel) (by decide +kernel)
theorem tm_490 : Jvm.Cond.methodLink "KnotReader" (104 : Nat) mn_History_clear ∈ jk_WA := jk_tb 490 (by decide +kernel) (by decide +kernel)
theorem tm_491 : Jvm.Cond.instanceMethod mn_History_clear ∈ jk_WA := jk_tb 491 (by decide +kernel) (by decide +kernel)
theorem tm_492 : Jvm.Cond.selects "KnotReader$History" mn_History_clear mn_History_clear ∈ jk_WA := jk_tb 492 (by decide +kernel) (by decide +kernel)
theorem tm_493 : Jvm.Cond.code mn_History_clear prog_4_method_2_code (1 : Nat) none ∈ jk_WA := jk_tb 493 (by decide +kernel) (by decide +kernel)
theorem tm_498 : Jvm.Cond.methodLink "KnotReader" (256 : Nat) mn_Check_order ∈ jk_WA := jk_tb 498 (by decide +kernel) (by decide +kernel)
theorem tm_499 : Jvm.Cond.static mn_Check_order ∈ jk_WA := jk_tb 499 (by decide +kernel) (by decide +kernel)
theorem tm_500 : Jvm.Cond.code mn_Check_order prog_2_method_2_code (3 : Nat) (some .boolean) ∈ jk_WA := jk_tb 500 (by decide +kernel) (by decide +kernel)
theorem tm_501 : Jvm.Cond.methodLink "KnotReader$Check" (15 : Nat) mn_Cords_end ∈ jk_WA := jk_tb 501 (by decide +kernel) (by decide +kernel)
theorem tm_502 : Jvm.Cond.instanceMethod mn_Cords_end ∈ jk_WA := jk_tb 502 (by decide +kernel) (by decide +kernel)
theorem tm_503 : Jvm.Cond.selects "KnotReader$Cords" mn_Cords_end mn_Cords_end ∈ jk_WA := jk_tb 503 (by decide +kernel) (by decide +kernel)
theorem tm_504 : Jvm.Cond.code mn_Cords_end prog_3_method_8_code (2 : Nat) (some .int) ∈ jk_WA := jk_tb 504 (by decide +kernel) (by decide +kernel)
theorem tm_505 : Jvm.Cond.methodLink "KnotReader$Check" (19 : Nat) mn_Cords_start ∈ jk_WA := jk_tb 505 (by decide +kernel) (by decide +kernel)
theorem tm_506 : Jvm.Cond.methodLink "KnotReader$Check" (25 : Nat) mn_Check_standsWell ∈ jk_WA := jk_tb 506 (by decide +kernel) (by decide +kernel)
theorem tm_507 : Jvm.Cond.static mn_Check_standsWell ∈ jk_WA := jk_tb 507 (by decide +kernel) (by decide +kernel)
theorem tm_508 : Jvm.Cond.code mn_Check_standsWell prog_2_method_3_code (4 : Nat) (some .boolean) ∈ jk_WA := jk_tb 508 (by decide +kernel) (by decide +kernel)
theorem tm_509 : Jvm.Cond.methodLink "KnotReader$Check" (31 : Nat) mn_Cords_clusterAt ∈ jk_WA := jk_tb 509 (by decide +kernel) (by decide +kernel)
theorem tm_510 : Jvm.Cond.instanceMethod mn_Cords_clusterAt ∈ jk_WA := jk_tb 510 (by decide +kernel) (by decide +kernel)
theorem tm_511 : Jvm.Cond.selects "KnotReader$Cords" mn_Cords_clusterAt mn_Cords_clusterAt ∈ jk_WA := jk_tb 511 (by decide +kernel) (by decide +kernel)
theorem tm_512 : Jvm.Cond.code mn_Cords_clusterAt prog_3_method_9_code (4 : Nat) (some .int) ∈ jk_WA := jk_tb 512 (by decide +kernel) (by decide +kernel)
theorem tm_513 : Jvm.Cond.methodLink "KnotReader$Check" (38 : Nat) mn_Row_get ∈ jk_WA := jk_tb 513 (by decide +kernel) (by decide +kernel)
theorem tm_514 : Jvm.Cond.methodLink "KnotReader" (262 : Nat) mn_Check_branches ∈ jk_WA := jk_tb 514 (by decide +kernel) (by decide +kernel)
theorem tm_515 : Jvm.Cond.static mn_Check_branches ∈ jk_WA := jk_tb 515 (by decide +kernel) (by decide +kernel)
theorem tm_516 : Jvm.Cond.code mn_Check_branches prog_2_method_4_code (5 : Nat) (some .boolean) ∈ jk_WA := jk_tb 516 (by decide +kernel) (by decide +kernel)
theorem tm_517 : Jvm.Cond.methodLink "KnotReader$Check" (43 : Nat) mn_Cords_branchEnd ∈ jk_WA := jk_tb 517 (by decide +kernel) (by decide +kernel)
theorem tm_518 : Jvm.Cond.methodLink "KnotReader$Check" (46 : Nat) mn_Cords_lowestSum ∈ jk_WA := jk_tb 518 (by decide +kernel) (by decide +kernel)
theorem tm_519 : Jvm.Cond.instanceMethod mn_Cords_lowestSum ∈ jk_WA := jk_tb 519 (by decide +kernel) (by decide +kernel)
theorem tm_520 : Jvm.Cond.selects "KnotReader$Cords" mn_Cords_lowestSum mn_Cords_lowestSum ∈ jk_WA := jk_tb 520 (by decide +kernel) (by decide +kernel)
theorem tm_521 : Jvm.Cond.code mn_Cords_lowestSum prog_3_method_18_code (5 : Nat) (some .int) ∈ jk_WA := jk_tb 521 (by decide +kernel) (by decide +kernel)
theorem tm_522 : Jvm.Cond.methodLink "KnotReader$Check" (50 : Nat) mn_Cords_nibbledAmong ∈ jk_WA := jk_tb 522 (by decide +kernel) (by decide +kernel)
theorem tm_523 : Jvm.Cond.instanceMethod mn_Cords_nibbledAmong ∈ jk_WA := jk_tb 523 (by decide +kernel) (by decide +kernel)
theorem tm_524 : Jvm.Cond.selects "KnotReader$Cords" mn_Cords_nibbledAmong mn_Cords_nibbledAmong ∈ jk_WA := jk_tb 524 (by decide +kernel) (by decide +kernel)
theorem tm_525 : Jvm.Cond.code mn_Cords_nibbledAmong prog_3_method_17_code (5 : Nat) (some .int) ∈ jk_WA := jk_tb 525 (by decide +kernel) (by decide +kernel)
theorem tm_526 : Jvm.Cond.methodLink "KnotReader$Check" (53 : Nat) mn_Cords_highestSum ∈ jk_WA := jk_tb 526 (by decide +kernel) (by decide +kernel)
theorem tm_527 : Jvm.Cond.instanceMethod mn_Cords_highestSum ∈ jk_WA := jk_tb 527 (by decide +kernel) (by decide +kernel)
theorem tm_528 : Jvm.Cond.selects "KnotReader$Cords" mn_Cords_highestSum mn_Cords_highestSum ∈ jk_WA := jk_tb 528 (by decide +kernel) (by decide +kernel)
theorem tm_529 : Jvm.Cond.code mn_Cords_highestSum prog_3_method_19_code (5 : Nat) (some .int) ∈ jk_WA := jk_tb 529 (by decide +kernel) (by decide +kernel)
theorem tm_530 : Jvm.Cond.methodLink "KnotReader$Cords" (54 : Nat) mn_Knots_power ∈ jk_WA := jk_tb 530 (by decide +kernel) (by decide +kernel)
theorem tm_531 : Jvm.Cond.methodLink "KnotReader$Check" (56 : Nat) mn_Check_totalByRecursion ∈ jk_WA := jk_tb 531 (by decide +kernel) (by decide +kernel)
theorem tm_532 : Jvm.Cond.static mn_Check_totalByRecursion ∈ jk_WA := jk_tb 532 (by decide +kernel) (by decide +kernel)
theorem tm_533 : Jvm.Cond.code mn_Check_totalByRecursion prog_2_method_5_code (6 : Nat) (some .int) ∈ jk_WA := jk_tb 533 (by decide +kernel) (by decide +kernel)
theorem tm_534 : Jvm.Cond.methodLink "KnotReader" (265 : Nat) mn_Check_sums ∈ jk_WA := jk_tb 534 (by decide +kernel) (by decide +kernel)
theorem tm_535 : Jvm.Cond.static mn_Check_sums ∈ jk_WA := jk_tb 535 (by decide +kernel) (by decide +kernel)
theorem tm_536 : Jvm.Cond.code mn_Check_sums prog_2_method_6_code (2 : Nat) (some .boolean) ∈ jk_WA := jk_tb 536 (by decide +kernel) (by decide +kernel)
theorem tm_537 : Jvm.Cond.methodLink "KnotReader$Check" (63 : Nat) mn_Cords_hasKnownSum ∈ jk_WA := jk_tb 537 (by decide +kernel) (by decide +kernel)
theorem tm_538 : Jvm.Cond.instanceMethod mn_Cords_hasKnownSum ∈ jk_WA := jk_tb 538 (by decide +kernel) (by decide +kernel)
theorem tm_539 : Jvm.Cond.selects "KnotReader$Cords" mn_Cords_hasKnownSum mn_Cords_hasKnownSum ∈ jk_WA := jk_tb 539 (by decide +kernel) (by decide +kernel)
theorem tm_540 : Jvm.Cond.code mn_Cords_hasKnownSum prog_3_method_20_code (2 : Nat) (some .boolean) ∈ jk_WA := jk_tb 540 (by decide +kernel) (by decide +kernel)
theorem tm_541 : Jvm.Cond.methodLink "KnotReader$Cords" (59 : Nat) mn_Cords_end ∈ jk_WA := jk_tb 541 (by decide +kernel) (by decide +kernel)
theorem tm_542 : Jvm.Cond.methodLink "KnotReader$Cords" (62 : Nat) mn_Cords_nibbledAmong ∈ jk_WA := jk_tb 542 (by decide +kernel) (by decide +kernel)
theorem tm_543 : Jvm.Cond.methodLink "KnotReader$Check" (67 : Nat) mn_Cords_sum ∈ jk_WA := jk_tb 543 (by decide +kernel) (by decide +kernel)
theorem tm_544 : Jvm.Cond.instanceMethod mn_Cords_sum ∈ jk_WA := jk_tb 544 (by decide +kernel) (by decide +kernel)
theorem tm_545 : Jvm.Cond.selects "KnotReader$Cords" mn_Cords_sum mn_Cords_sum ∈ jk_WA := jk_tb 545 (by decide +kernel) (by decide +kernel)
theorem tm_546 : Jvm.Cond.code mn_Cords_sum prog_3_method_21_code (2 : Nat) (some .int) ∈ jk_WA := jk_tb 546 (by decide +kernel) (by decide +kernel)
theorem tm_547 : Jvm.Cond.methodLink "KnotReader$Cords" (66 : Nat) mn_Cords_lowestSum ∈ jk_WA := jk_tb 547 (by decide +kernel) (by decide +kernel)
theorem tm_548 : Jvm.Cond.methodLink "KnotReader$Check" (70 : Nat) mn_Check_sumByRecursion ∈ jk_WA := jk_tb 548 (by decide +kernel) (by decide +kernel)
theorem tm_549 : Jvm.Cond.static mn_Check_sumByRecursion ∈ jk_WA := jk_tb 549 (by decide +kernel) (by decide +kernel)
theorem tm_550 : Jvm.Cond.code mn_Check_sumByRecursion prog_2_method_7_code (5 : Nat) (some .int) ∈ jk_WA := jk_tb 550 (by decide +kernel) (by decide +kernel)
theorem tm_551 : Jvm.Cond.methodLink "KnotReader" (268 : Nat) mn_Check_guesses ∈ jk_WA := jk_tb 551 (by decide +kernel) (by decide +kernel)
theorem tm_552 : Jvm.Cond.static mn_Check_guesses ∈ jk_WA := jk_tb 552 (by decide +kernel) (by decide +kernel)
theorem tm_553 : Jvm.Cond.code mn_Check_guesses prog_2_method_8_code (3 : Nat) (some .boolean) ∈ jk_WA := jk_tb 553 (by decide +kernel) (by decide +kernel)
theorem tm_554 : Jvm.Cond.methodLink "KnotReader$Check" (74 : Nat) mn_Cords_obstacle ∈ jk_WA := jk_tb 554 (by decide +kernel) (by decide +kernel)
theorem tm_555 : Jvm.Cond.instanceMethod mn_Cords_obstacle ∈ jk_WA := jk_tb 555 (by decide +kernel) (by decide +kernel)
theorem tm_556 : Jvm.Cond.selects "KnotReader$Cords" mn_Cords_obstacle mn_Cords_obstacle ∈ jk_WA := jk_tb 556 (by decide +kernel) (by decide +kernel)
theorem tm_557 : Jvm.Cond.code mn_Cords_obstacle prog_3_method_25_code (3 : Nat) (some .int) ∈ jk_WA := jk_tb 557 (by decide +kernel) (by decide +kernel)
theorem tm_558 : Jvm.Cond.methodLink "KnotReader$Cords" (69 : Nat) mn_Cords_hasTop ∈ jk_WA := jk_tb 558 (by decide +kernel) (by decide +kernel)
theorem tm_559 : Jvm.Cond.methodLink "KnotReader$Cords" (73 : Nat) mn_Cords_start ∈ jk_WA := jk_tb 559 (by decide +kernel) (by decide +kernel)
theorem tm_560 : Jvm.Cond.methodLink "KnotReader$Cords" (79 : Nat) mn_Cords_onlyNibbled ∈ jk_WA := jk_tb 560 (by decide +kernel) (by decide +kernel)
theorem tm_561 : Jvm.Cond.instanceMethod mn_Cords_onlyNibbled ∈ jk_WA := jk_tb 561 (by decide +kernel) (by decide +kernel)
theorem tm_562 : Jvm.Cond.selects "KnotReader$Cords" mn_Cords_onlyNibbled mn_Cords_onlyNibbled ∈ jk_WA := jk_tb 562 (by decide +kernel) (by decide +kernel)
theorem tm_563 : Jvm.Cond.code mn_Cords_onlyNibbled prog_3_method_23_code (5 : Nat) (some .int) ∈ jk_WA := jk_tb 563 (by decide +kernel) (by decide +kernel)
theorem tm_564 : Jvm.Cond.methodLink "KnotReader$Cords" (82 : Nat) mn_Cords_guess ∈ jk_WA := jk_tb 564 (by decide +kernel) (by decide +kernel)
theorem tm_565 : Jvm.Cond.instanceMethod mn_Cords_guess ∈ jk_WA := jk_tb 565 (by decide +kernel) (by decide +kernel)
theorem tm_566 : Jvm.Cond.selects "KnotReader$Cords" mn_Cords_guess mn_Cords_guess ∈ jk_WA := jk_tb 566 (by decide +kernel) (by decide +kernel)
theorem tm_567 : Jvm.Cond.code mn_Cords_guess prog_3_method_24_code (5 : Nat) (some .int) ∈ jk_WA := jk_tb 567 (by decide +kernel) (by decide +kernel)
theorem tm_568 : Jvm.Cond.methodLink "KnotReader$Cords" (85 : Nat) mn_Cords_fits ∈ jk_WA := jk_tb 568 (by decide +kernel) (by decide +kernel)
theorem tm_570 : Jvm.Cond.instanceMethod mn_Cords_fits ∈ jk_WA := jk_tb 570 (by decide +kernel) (by decide +kernel)
theorem tm_571 : Jvm.Cond.code mn_Cords_fits prog_3_method_26_code (3 : Nat) (some .boolean) ∈ jk_WA := jk_tb 571 (by decide +kernel) (by decide +kernel)
theorem tm_573 : Jvm.Cond.static mn_KR_isValue ∈ jk_WA := jk_tb 573 (by decide +kernel) (by decide +kernel)
theorem tm_574 : Jvm.Cond.code mn_KR_isValue prog_1_method_62_code (1 : Nat) (some .boolean) ∈ jk_WA := jk_tb 574 (by decide +kernel) (by decide +kernel)
theorem tm_575 : Jvm.Cond.methodLink "KnotReader$Check" (77 : Nat) mn_Cords_copyFrom ∈ jk_WA := jk_tb 575 (by decide +kernel) (by decide +kernel)
theorem tm_576 : Jvm.Cond.methodLink "KnotReader$Check" (81 : Nat) mn_Cords_mend ∈ jk_WA := jk_tb 576 (by decide +kernel) (by decide +kernel)
theorem tm_577 : Jvm.Cond.instanceMethod mn_Cords_mend ∈ jk_WA := jk_tb 577 (by decide +kernel) (by decide +kernel)
theorem tm_578 : Jvm.Cond.selects "KnotReader$Cords" mn_Cords_mend mn_Cords_mend ∈ jk_WA := jk_tb 578 (by decide +kernel) (by decide +kernel)
theorem tm_579 : Jvm.Cond.code mn_Cords_mend prog_3_method_34_code (4 : Nat) (some .int) ∈ jk_WA := jk_tb 579 (by decide +kernel) (by decide +kernel)
theorem tm_580 : Jvm.Cond.methodLink "KnotReader$Check" (84 : Nat) mn_Cords_state ∈ jk_WA := jk_tb 580 (by decide +kernel) (by decide +kernel)
theorem tm_581 : Jvm.Cond.instanceMethod mn_Cords_state ∈ jk_WA := jk_tb 581 (by decide +kernel) (by decide +kernel)
theorem tm_582 : Jvm.Cond.selects "KnotReader$Cords" mn_Cords_state mn_Cords_state ∈ jk_WA := jk_tb 582 (by decide +kernel) (by decide +kernel)
theorem tm_583 : Jvm.Cond.code mn_Cords_state prog_3_method_22_code (3 : Nat) (some .int) ∈ jk_WA := jk_tb 583 (by decide +kernel) (by decide +kernel)
theorem tm_584 : Jvm.Cond.methodLink "KnotReader$Cords" (76 : Nat) mn_Cords_sum ∈ jk_WA := jk_tb 584 (by decide +kernel) (by decide +kernel)
theorem tm_920 : Jvm.Cond.methodLink "KnotReader" (89 : Nat) mn_Text_putFour ∈ jk_WA := jk_tb 920 (by decide +kernel) (by decide +kernel)
theorem tm_921 : Jvm.Cond.instanceMethod mn_Text_putFour ∈ jk_WA := jk_tb 921 (by decide +kernel) (by decide +kernel)
theorem tm_922 : Jvm.Cond.selects "KnotReader$Text" mn_Text_putFour mn_Text_putFour ∈ jk_WA := jk_tb 922 (by decide +kernel) (by decide +kernel)
theorem tm_923 : Jvm.Cond.code mn_Text_putFour prog_10_method_4_code (3 : Nat) none ∈ jk_WA := jk_tb 923 (by decide +kernel) (by decide +kernel)
theorem tm_947 : Jvm.Cond.methodLink "KnotReader" (172 : Nat) mn_KR_requireCord ∈ jk_WA := jk_tb 947 (by decide +kernel) (by decide +kernel)
theorem tm_949 : Jvm.Cond.instanceMethod mn_KR_requireCord ∈ jk_WA := jk_tb 949 (by decide +kernel) (by decide +kernel)
theorem tm_950 : Jvm.Cond.code mn_KR_requireCord prog_1_method_60_code (2 : Nat) none ∈ jk_WA := jk_tb 950 (by decide +kernel) (by decide +kernel)
theorem tm_951 : Jvm.Cond.methodLink "KnotReader" (312 : Nat) mn_Cords_has ∈ jk_WA := jk_tb 951 (by decide +kernel) (by decide +kernel)
theorem tm_952 : Jvm.Cond.instanceMethod mn_Cords_has ∈ jk_WA := jk_tb 952 (by decide +kernel) (by decide +kernel)
theorem tm_953 : Jvm.Cond.selects "KnotReader$Cords" mn_Cords_has mn_Cords_has ∈ jk_WA := jk_tb 953 (by decide +kernel) (by decide +kernel)
theorem tm_954 : Jvm.Cond.code mn_Cords_has prog_3_method_4_code (2 : Nat) (some .boolean) ∈ jk_WA := jk_tb 954 (by decide +kernel) (by decide +kernel)
theorem tm_955 : Jvm.Cond.classLink "KnotReader" (302 : Nat) "java/lang/IndexOutOfBoundsException" ∈ jk_WA := jk_tb 955 (by decide +kernel) (by decide +kernel)
theorem tm_1023 : Jvm.Cond.methodLink "KnotReader" (175 : Nat) mn_Cords_clusterAt ∈ jk_WA := jk_tb 1023 (by decide +kernel) (by decide +kernel)
theorem tm_1033 : Jvm.Cond.methodLink "KnotReader" (119 : Nat) mn_Row_get ∈ jk_WA := jk_tb 1033 (by decide +kernel) (by decide +kernel)
theorem tm_1051 : Jvm.Cond.methodLink "KnotReader" (187 : Nat) mn_Cords_branchEnd ∈ jk_WA := jk_tb 1051 (by decide +kernel) (by decide +kernel)
theorem tm_1052 : Jvm.Cond.methodLink "KnotReader" (190 : Nat) mn_Cords_countAtDepth ∈ jk_WA := jk_tb 1052 (by decide +kernel) (by decide +kernel)
theorem tm_1053 : Jvm.Cond.instanceMethod mn_Cords_countAtDepth ∈ jk_WA := jk_tb 1053 (by decide +kernel) (by decide +kernel)
theorem tm_1054 : Jvm.Cond.selects "KnotReader$Cords" mn_Cords_countAtDepth mn_Cords_countAtDepth ∈ jk_WA := jk_tb 1054 (by decide +kernel) (by decide +kernel)
theorem tm_1055 : Jvm.Cond.code mn_Cords_countAtDepth prog_3_method_15_code (6 : Nat) (some .int) ∈ jk_WA := jk_tb 1055 (by decide +kernel) (by decide +kernel)
theorem tm_1060 : Jvm.Cond.methodLink "KnotReader" (197 : Nat) mn_Cords_lowestSum ∈ jk_WA := jk_tb 1060 (by decide +kernel) (by decide +kernel)
theorem tm_1066 : Jvm.Cond.methodLink "KnotReader" (159 : Nat) mn_Cords_nibbledAmong ∈ jk_WA := jk_tb 1066 (by decide +kernel) (by decide +kernel)
theorem tm_1076 : Jvm.Cond.methodLink "KnotReader" (203 : Nat) mn_KR_isPlace ∈ jk_WA := jk_tb 1076 (by decide +kernel) (by decide +kernel)
theorem tm_1077 : Jvm.Cond.static mn_KR_isPlace ∈ jk_WA := jk_tb 1077 (by decide +kernel) (by decide +kernel)
theorem tm_1078 : Jvm.Cond.code mn_KR_isPlace prog_1_method_61_code (1 : Nat) (some .boolean) ∈ jk_WA := jk_tb 1078 (by decide +kernel) (by decide +kernel)
theorem tm_1079 : Jvm.Cond.classLink "KnotReader" (207 : Nat) "java/lang/IllegalArgumentException" ∈ jk_WA := jk_tb 1079 (by decide +kernel) (by decide +kernel)
theorem tm_1095 : Jvm.Cond.methodLink "KnotReader" (213 : Nat) mn_Knots_at ∈ jk_WA := jk_tb 1095 (by decide +kernel) (by decide +kernel)
theorem tm_1100 : Jvm.Cond.methodLink "KnotReader" (221 : Nat) mn_KR_requireCluster ∈ jk_WA := jk_tb 1100 (by decide +kernel) (by decide +kernel)
theorem tm_1102 : Jvm.Cond.instanceMethod mn_KR_requireCluster ∈ jk_WA := jk_tb 1102 (by decide +kernel) (by decide +kernel)
theorem tm_1103 : Jvm.Cond.code mn_KR_requireCluster prog_1_method_59_code (2 : Nat) none ∈ jk_WA := jk_tb 1103 (by decide +kernel) (by decide +kernel)
theorem tm_1104 : Jvm.Cond.methodLink "KnotReader" (307 : Nat) mn_Cords_hasCluster ∈ jk_WA := jk_tb 1104 (by decide +kernel) (by decide +kernel)
theorem tm_1105 : Jvm.Cond.instanceMethod mn_Cords_hasCluster ∈ jk_WA := jk_tb 1105 (by decide +kernel) (by decide +kernel)
theorem tm_1106 : Jvm.Cond.selects "KnotReader$Cords" mn_Cords_hasCluster mn_Cords_hasCluster ∈ jk_WA := jk_tb 1106 (by decide +kernel) (by decide +kernel)
theorem tm_1107 : Jvm.Cond.code mn_Cords_hasCluster prog_3_method_5_code (2 : Nat) (some .boolean) ∈ jk_WA := jk_tb 1107 (by decide +kernel) (by decide +kernel)
theorem tm_1109 : Jvm.Cond.methodLink "KnotReader" (163 : Nat) mn_Cords_state ∈ jk_WA := jk_tb 1109 (by decide +kernel) (by decide +kernel)
theorem tm_1125 : Jvm.Cond.methodLink "KnotReader" (236 : Nat) mn_Cords_obstacle ∈ jk_WA := jk_tb 1125 (by decide +kernel) (by decide +kernel)
theorem tm_1148 : Jvm.Cond.methodLink "KnotReader" (224 : Nat) mn_Cords_start ∈ jk_WA := jk_tb 1148 (by decide +kernel) (by decide +kernel)
theorem tm_1149 : Jvm.Cond.methodLink "KnotReader" (227 : Nat) mn_Cords_end ∈ jk_WA := jk_tb 1149 (by decide +kernel) (by decide +kernel)
theorem tm_1154 : Jvm.Cond.methodLink "KnotReader" (230 : Nat) mn_Cords_hasTop ∈ jk_WA := jk_tb 1154 (by decide +kernel) (by decide +kernel)
theorem tm_1163 : Jvm.Cond.classLink "KnotReader" (216 : Nat) "java/util/NoSuchElementException" ∈ jk_WA := jk_tb 1163 (by decide +kernel) (by decide +kernel)
theorem tm_1179 : Jvm.Cond.methodLink "KnotReader" (247 : Nat) mn_Cords_guess ∈ jk_WA := jk_tb 1179 (by decide +kernel) (by decide +kernel)
theorem tm_1199 : Jvm.Cond.methodLink "KnotReader" (272 : Nat) mn_KR_change ∈ jk_WA := jk_tb 1199 (by decide +kernel) (by decide +kernel)
theorem tm_1201 : Jvm.Cond.instanceMethod mn_KR_change ∈ jk_WA := jk_tb 1201 (by decide +kernel) (by decide +kernel)
theorem tm_1202 : Jvm.Cond.code mn_KR_change prog_1_method_63_code (6 : Nat) (some .int) ∈ jk_WA := jk_tb 1202 (by decide +kernel) (by decide +kernel)
theorem tm_1203 : Jvm.Cond.methodLink "KnotReader" (134 : Nat) mn_KR_problemOf ∈ jk_WA := jk_tb 1203 (by decide +kernel) (by decide +kernel)
theorem tm_1205 : Jvm.Cond.instanceMethod mn_KR_problemOf ∈ jk_WA := jk_tb 1205 (by decide +kernel) (by decide +kernel)
theorem tm_1206 : Jvm.Cond.code mn_KR_problemOf prog_1_method_64_code (5 : Nat) (some .int) ∈ jk_WA := jk_tb 1206 (by decide +kernel) (by decide +kernel)
theorem tm_1207 : Jvm.Cond.methodLink "KnotReader" (324 : Nat) mn_KR_newCordProblem ∈ jk_WA := jk_tb 1207 (by decide +kernel) (by decide +kernel)
theorem tm_1209 : Jvm.Cond.instanceMethod mn_KR_newCordProblem ∈ jk_WA := jk_tb 1209 (by decide +kernel) (by decide +kernel)
theorem tm_1210 : Jvm.Cond.code mn_KR_newCordProblem prog_1_method_65_code (5 : Nat) (some .int) ∈ jk_WA := jk_tb 1210 (by decide +kernel) (by decide +kernel)
theorem tm_1211 : Jvm.Cond.methodLink "KnotReader" (299 : Nat) mn_Topics_has ∈ jk_WA := jk_tb 1211 (by decide +kernel) (by decide +kernel)
theorem tm_1212 : Jvm.Cond.instanceMethod mn_Topics_has ∈ jk_WA := jk_tb 1212 (by decide +kernel) (by decide +kernel)
theorem tm_1213 : Jvm.Cond.selects "KnotReader$Topics" mn_Topics_has mn_Topics_has ∈ jk_WA := jk_tb 1213 (by decide +kernel) (by decide +kernel)
theorem tm_1214 : Jvm.Cond.code mn_Topics_has prog_11_method_4_code (2 : Nat) (some .boolean) ∈ jk_WA := jk_tb 1214 (by decide +kernel) (by decide +kernel)
theorem tm_1215 : Jvm.Cond.methodLink "KnotReader" (340 : Nat) mn_KR_isValue ∈ jk_WA := jk_tb 1215 (by decide +kernel) (by decide +kernel)
theorem tm_1216 : Jvm.Cond.methodLink "KnotReader" (328 : Nat) mn_Cords_canHoldMore ∈ jk_WA := jk_tb 1216 (by decide +kernel) (by decide +kernel)
theorem tm_1217 : Jvm.Cond.instanceMethod mn_Cords_canHoldMore ∈ jk_WA := jk_tb 1217 (by decide +kernel) (by decide +kernel)
theorem tm_1218 : Jvm.Cond.selects "KnotReader$Cords" mn_Cords_canHoldMore mn_Cords_canHoldMore ∈ jk_WA := jk_tb 1218 (by decide +kernel) (by decide +kernel)
theorem tm_1219 : Jvm.Cond.code mn_Cords_canHoldMore prog_3_method_6_code (2 : Nat) (some .boolean) ∈ jk_WA := jk_tb 1219 (by decide +kernel) (by decide +kernel)
theorem tm_1220 : Jvm.Cond.methodLink "KnotReader" (331 : Nat) mn_KR_tieProblem ∈ jk_WA := jk_tb 1220 (by decide +kernel) (by decide +kernel)
theorem tm_1222 : Jvm.Cond.instanceMethod mn_KR_tieProblem ∈ jk_WA := jk_tb 1222 (by decide +kernel) (by decide +kernel)
theorem tm_1223 : Jvm.Cond.code mn_KR_tieProblem prog_1_method_66_code (3 : Nat) (some .int) ∈ jk_WA := jk_tb 1223 (by decide +kernel) (by decide +kernel)
theorem tm_1224 : Jvm.Cond.methodLink "KnotReader" (239 : Nat) mn_Cords_hasKnownSum ∈ jk_WA := jk_tb 1224 (by decide +kernel) (by decide +kernel)
theorem tm_1225 : Jvm.Cond.methodLink "KnotReader" (244 : Nat) mn_Cords_sum ∈ jk_WA := jk_tb 1225 (by decide +kernel) (by decide +kernel)
theorem tm_1226 : Jvm.Cond.methodLink "KnotReader" (334 : Nat) mn_KR_knotsProblem ∈ jk_WA := jk_tb 1226 (by decide +kernel) (by decide +kernel)
theorem tm_1228 : Jvm.Cond.instanceMethod mn_KR_knotsProblem ∈ jk_WA := jk_tb 1228 (by decide +kernel) (by decide +kernel)
theorem tm_1229 : Jvm.Cond.code mn_KR_knotsProblem prog_1_method_67_code (4 : Nat) (some .int) ∈ jk_WA := jk_tb 1229 (by decide +kernel) (by decide +kernel)
theorem tm_1230 : Jvm.Cond.methodLink "KnotReader" (337 : Nat) mn_KR_nibbleProblem ∈ jk_WA := jk_tb 1230 (by decide +kernel) (by decide +kernel)
theorem tm_1232 : Jvm.Cond.instanceMethod mn_KR_nibbleProblem ∈ jk_WA := jk_tb 1232 (by decide +kernel) (by decide +kernel)
theorem tm_1233 : Jvm.Cond.code mn_KR_nibbleProblem prog_1_method_68_code (3 : Nat) (some .int) ∈ jk_WA := jk_tb 1233 (by decide +kernel) (by decide +kernel)
theorem tm_1236 : Jvm.Cond.classLink "KnotReader" (319 : Nat) "java/lang/IllegalStateException" ∈ jk_WA := jk_tb 1236 (by decide +kernel) (by decide +kernel)
theorem tm_1252 : Jvm.Cond.methodLink "KnotReader" (111 : Nat) mn_History_push ∈ jk_WA := jk_tb 1252 (by decide +kernel) (by decide +kernel)
theorem tm_1253 : Jvm.Cond.instanceMethod mn_History_push ∈ jk_WA := jk_tb 1253 (by decide +kernel) (by decide +kernel)
theorem tm_1254 : Jvm.Cond.selects "KnotReader$History" mn_History_push mn_History_push ∈ jk_WA := jk_tb 1254 (by decide +kernel) (by decide +kernel)
theorem tm_1255 : Jvm.Cond.code mn_History_push prog_4_method_3_code (3 : Nat) none ∈ jk_WA := jk_tb 1255 (by decide +kernel) (by decide +kernel)
theorem tm_1256 : Jvm.Cond.methodLink "KnotReader$History" (25 : Nat) mn_History_at ∈ jk_WA := jk_tb 1256 (by decide +kernel) (by decide +kernel)
theorem tm_1258 : Jvm.Cond.instanceMethod mn_History_at ∈ jk_WA := jk_tb 1258 (by decide +kernel) (by decide +kernel)
theorem tm_1259 : Jvm.Cond.code mn_History_at prog_4_method_5_code (2 : Nat) (Option.some (Jvm.ClassFile.FieldType.object "KnotReader$Cords")) ∈ jk_WA := jk_tb 1259 (by decide +kernel) (by decide +kernel)
theorem tm_1260 : Jvm.Cond.methodLink "KnotReader$History" (29 : Nat) mn_Cords_copyFrom ∈ jk_WA := jk_tb 1260 (by decide +kernel) (by decide +kernel)
theorem tm_1261 : Jvm.Cond.methodLink "KnotReader" (138 : Nat) mn_KR_perform ∈ jk_WA := jk_tb 1261 (by decide +kernel) (by decide +kernel)
theorem tm_1263 : Jvm.Cond.instanceMethod mn_KR_perform ∈ jk_WA := jk_tb 1263 (by decide +kernel) (by decide +kernel)
theorem tm_1264 : Jvm.Cond.code mn_KR_perform prog_1_method_69_code (5 : Nat) (some .int) ∈ jk_WA := jk_tb 1264 (by decide +kernel) (by decide +kernel)
theorem tm_1265 : Jvm.Cond.methodLink "KnotReader" (343 : Nat) mn_Cords_openCluster ∈ jk_WA := jk_tb 1265 (by decide +kernel) (by decide +kernel)
theorem tm_1266 : Jvm.Cond.methodLink "KnotReader" (347 : Nat) mn_Cords_insert ∈ jk_WA := jk_tb 1266 (by decide +kernel) (by decide +kernel)
theorem tm_1267 : Jvm.Cond.methodLink "KnotReader" (351 : Nat) mn_Cords_remove ∈ jk_WA := jk_tb 1267 (by decide +kernel) (by decide +kernel)
theorem tm_1268 : Jvm.Cond.instanceMethod mn_Cords_remove ∈ jk_WA := jk_tb 1268 (by decide +kernel) (by decide +kernel)
theorem tm_1269 : Jvm.Cond.selects "KnotReader$Cords" mn_Cords_remove mn_Cords_remove ∈ jk_WA := jk_tb 1269 (by decide +kernel) (by decide +kernel)
theorem tm_1270 : Jvm.Cond.code mn_Cords_remove prog_3_method_29_code (4 : Nat) (some .int) ∈ jk_WA := jk_tb 1270 (by decide +kernel) (by decide +kernel)
theorem tm_1271 : Jvm.Cond.methodLink "KnotReader$Cords" (106 : Nat) mn_Cords_clusterAt ∈ jk_WA := jk_tb 1271 (by decide +kernel) (by decide +kernel)
theorem tm_1272 : Jvm.Cond.methodLink "KnotReader$Cords" (109 : Nat) mn_Row_remove ∈ jk_WA := jk_tb 1272 (by decide +kernel) (by decide +kernel)
theorem tm_1273 : Jvm.Cond.instanceMethod mn_Row_remove ∈ jk_WA := jk_tb 1273 (by decide +kernel) (by decide +kernel)
theorem tm_1274 : Jvm.Cond.selects "KnotReader$Row" mn_Row_remove mn_Row_remove ∈ jk_WA := jk_tb 1274 (by decide +kernel) (by decide +kernel)
theorem tm_1275 : Jvm.Cond.code mn_Row_remove prog_7_method_7_code (5 : Nat) none ∈ jk_WA := jk_tb 1275 (by decide +kernel) (by decide +kernel)
theorem tm_1276 : Jvm.Cond.methodLink "KnotReader" (354 : Nat) mn_Cords_tie ∈ jk_WA := jk_tb 1276 (by decide +kernel) (by decide +kernel)
theorem tm_1277 : Jvm.Cond.instanceMethod mn_Cords_tie ∈ jk_WA := jk_tb 1277 (by decide +kernel) (by decide +kernel)
theorem tm_1278 : Jvm.Cond.selects "KnotReader$Cords" mn_Cords_tie mn_Cords_tie ∈ jk_WA := jk_tb 1278 (by decide +kernel) (by decide +kernel)
theorem tm_1279 : Jvm.Cond.code mn_Cords_tie prog_3_method_31_code (4 : Nat) (some .int) ∈ jk_WA := jk_tb 1279 (by decide +kernel) (by decide +kernel)
theorem tm_1280 : Jvm.Cond.methodLink "KnotReader$Cords" (112 : Nat) mn_Cords_insert ∈ jk_WA := jk_tb 1280 (by decide +kernel) (by decide +kernel)
theorem tm_1281 : Jvm.Cond.methodLink "KnotReader" (357 : Nat) mn_Cords_knot ∈ jk_WA := jk_tb 1281 (by decide +kernel) (by decide +kernel)
theorem tm_1282 : Jvm.Cond.instanceMethod mn_Cords_knot ∈ jk_WA := jk_tb 1282 (by decide +kernel) (by decide +kernel)
theorem tm_1283 : Jvm.Cond.selects "KnotReader$Cords" mn_Cords_knot mn_Cords_knot ∈ jk_WA := jk_tb 1283 (by decide +kernel) (by decide +kernel)
theorem tm_1284 : Jvm.Cond.code mn_Cords_knot prog_3_method_32_code (5 : Nat) (some .int) ∈ jk_WA := jk_tb 1284 (by decide +kernel) (by decide +kernel)
theorem tm_1285 : Jvm.Cond.methodLink "KnotReader$Cords" (115 : Nat) mn_Knots_at ∈ jk_WA := jk_tb 1285 (by decide +kernel) (by decide +kernel)
theorem tm_1286 : Jvm.Cond.methodLink "KnotReader" (360 : Nat) mn_Cords_loseKnots ∈ jk_WA := jk_tb 1286 (by decide +kernel) (by decide +kernel)
theorem tm_1287 : Jvm.Cond.methodLink "KnotReader" (363 : Nat) mn_Row_replace ∈ jk_WA := jk_tb 1287 (by decide +kernel) (by decide +kernel)
theorem tm_1288 : Jvm.Cond.instanceMethod mn_Row_replace ∈ jk_WA := jk_tb 1288 (by decide +kernel) (by decide +kernel)
theorem tm_1289 : Jvm.Cond.selects "KnotReader$Row" mn_Row_replace mn_Row_replace ∈ jk_WA := jk_tb 1289 (by decide +kernel) (by decide +kernel)
theorem tm_1290 : Jvm.Cond.code mn_Row_replace prog_7_method_4_code (4 : Nat) (some .int) ∈ jk_WA := jk_tb 1290 (by decide +kernel) (by decide +kernel)
theorem tm_1291 : Jvm.Cond.methodLink "KnotReader" (366 : Nat) mn_Cords_mend ∈ jk_WA := jk_tb 1291 (by decide +kernel) (by decide +kernel)
theorem sl_0 : Cond.selects mn_Text_putByte.cls mn_Text_putByte mn_Text_putByte ∈ jk_WA := jk_sl 0 (k := 7) (by decide +kernel)
theorem sl_1 : Cond.selects mn_Text_sortAt.cls mn_Text_sortAt mn_Text_sortAt ∈ jk_WA := jk_sl 1 (k := 7) (by decide +kernel)
theorem sl_2 : Cond.selects mn_Text_name.cls mn_Text_name mn_Text_name ∈ jk_WA := jk_sl 2 (k := 7) (by decide +kernel)
theorem sl_3 : Cond.selects mn_Cords_resize.cls mn_Cords_resize mn_Cords_resize ∈ jk_WA := jk_sl 3 (k := 7) (by decide +kernel)
theorem sl_4 : Cond.selects mn_KR_closeText.cls mn_KR_closeText mn_KR_closeText ∈ jk_WA := jk_sl 4 (k := 12) (by decide +kernel)
theorem sl_5 : Cond.selects mn_Cords_fits.cls mn_Cords_fits mn_Cords_fits ∈ jk_WA := jk_sl 5 (k := 7) (by decide +kernel)
theorem sl_10 : Cond.selects mn_KR_requireCord.cls mn_KR_requireCord mn_KR_requireCord ∈ jk_WA := jk_sl 10 (k := 12) (by decide +kernel)
theorem sl_12 : Cond.selects mn_KR_requireCluster.cls mn_KR_requireCluster mn_KR_requireCluster ∈ jk_WA := jk_sl 12 (k := 12) (by decide +kernel)
theorem sl_13 : Cond.selects mn_KR_change.cls mn_KR_change mn_KR_change ∈ jk_WA := jk_sl 13 (k := 12) (by decide +kernel)
theorem sl_14 : Cond.selects mn_KR_problemOf.cls mn_KR_problemOf mn_KR_problemOf ∈ jk_WA := jk_sl 14 (k := 12) (by decide +kernel)
theorem sl_15 : Cond.selects mn_KR_newCordProblem.cls mn_KR_newCordProblem mn_KR_newCordProblem ∈ jk_WA := jk_sl 15 (k := 12) (by decide +kernel)
theorem sl_16 : Cond.selects mn_KR_tieProblem.cls mn_KR_tieProblem mn_KR_tieProblem ∈ jk_WA := jk_sl 16 (k := 12) (by decide +kernel)
theorem sl_17 : Cond.selects mn_KR_knotsProblem.cls mn_KR_knotsProblem mn_KR_knotsProblem ∈ jk_WA := jk_sl 17 (k := 12) (by decide +kernel)
theorem sl_18 : Cond.selects mn_KR_nibbleProblem.cls mn_KR_nibbleProblem mn_KR_nibbleProblem ∈ jk_WA := jk_sl 18 (k := 12) (by decide +kernel)
theorem sl_19 : Cond.selects mn_History_at.cls mn_History_at mn_History_at ∈ jk_WA := jk_sl 19 (k := 3) (by decide +kernel)
theorem sl_20 : Cond.selects mn_KR_perform.cls mn_KR_perform mn_KR_perform ∈ jk_WA := jk_sl 20 (k := 12) (by decide +kernel)
theorem tn_1 : Jvm.Cond.fieldLinkNest "KnotReader" (86 : Nat) "KnotReader$Text" "length" "I" "KnotReader" ∈ jk_nest := List.mem_of_getElem? (i := 1) (by decide +kernel)
theorem tn_2 : Jvm.Cond.fieldLinkNest "KnotReader" (141 : Nat) "KnotReader$Text" "code" "I" "KnotReader" ∈ jk_nest := List.mem_of_getElem? (i := 2) (by decide +kernel)
theorem tn_3 : Jvm.Cond.fieldLinkNest "KnotReader" (144 : Nat) "KnotReader$Text" "offset" "I" "KnotReader" ∈ jk_nest := List.mem_of_getElem? (i := 3) (by decide +kernel)
theorem tn_6 : Jvm.Cond.fieldLinkNest "KnotReader$Setup" (48 : Nat) "KnotReader$Topics" "size" "I" "KnotReader" ∈ jk_nest := List.mem_of_getElem? (i := 6) (by decide +kernel)
theorem tn_8 : Jvm.Cond.fieldLinkNest "KnotReader$Check" (9 : Nat) "KnotReader$Cords" "clusters" "I" "KnotReader" ∈ jk_nest := List.mem_of_getElem? (i := 8) (by decide +kernel)
theorem tn_9 : Jvm.Cond.fieldLinkNest "KnotReader$Setup" (63 : Nat) "KnotReader$Cords" "clusters" "I" "KnotReader" ∈ jk_nest := List.mem_of_getElem? (i := 9) (by decide +kernel)
theorem tn_10 : Jvm.Cond.fieldLinkNest "KnotReader" (148 : Nat) "KnotReader$Cords" "clusters" "I" "KnotReader" ∈ jk_nest := List.mem_of_getElem? (i := 10) (by decide +kernel)
theorem tn_11 : Jvm.Cond.fieldLinkNest "KnotReader$Check" (22 : Nat) "KnotReader$Cords" "size" "I" "KnotReader" ∈ jk_nest := List.mem_of_getElem? (i := 11) (by decide +kernel)
theorem tn_12 : Jvm.Cond.fieldLinkNest "KnotReader" (105 : Nat) "KnotReader$Cords" "size" "I" "KnotReader" ∈ jk_nest := List.mem_of_getElem? (i := 12) (by decide +kernel)
theorem tn_13 : Jvm.Cond.fieldLinkNest "KnotReader$Setup" (109 : Nat) "KnotReader$Cords" "size" "I" "KnotReader" ∈ jk_nest := List.mem_of_getElem? (i := 13) (by decide +kernel)
theorem tn_14 : Jvm.Cond.fieldLinkNest "KnotReader$Check" (34 : Nat) "KnotReader$Cords" "depth" "LKnotReader$Row;" "KnotReader" ∈ jk_nest := List.mem_of_getElem? (i := 14) (by decide +kernel)
theorem tn_15 : Jvm.Cond.fieldLinkNest "KnotReader" (178 : Nat) "KnotReader$Cords" "depth" "LKnotReader$Row;" "KnotReader" ∈ jk_nest := List.mem_of_getElem? (i := 15) (by decide +kernel)
theorem tn_16 : Jvm.Cond.fieldLinkNest "KnotReader" (184 : Nat) "KnotReader$Cords" "topic" "LKnotReader$Row;" "KnotReader" ∈ jk_nest := List.mem_of_getElem? (i := 16) (by decide +kernel)
theorem tn_17 : Jvm.Cond.fieldLinkNest "KnotReader$Check" (60 : Nat) "KnotReader$Cords" "value" "LKnotReader$Row;" "KnotReader" ∈ jk_nest := List.mem_of_getElem? (i := 17) (by decide +kernel)
theorem tn_18 : Jvm.Cond.fieldLinkNest "KnotReader" (151 : Nat) "KnotReader$Cords" "value" "LKnotReader$Row;" "KnotReader" ∈ jk_nest := List.mem_of_getElem? (i := 18) (by decide +kernel)
theorem tn_19 : Jvm.Cond.fieldLinkNest "KnotReader" (194 : Nat) "KnotReader$Cords" "nibbled" "LKnotReader$Row;" "KnotReader" ∈ jk_nest := List.mem_of_getElem? (i := 19) (by decide +kernel)
theorem tn_22 : Jvm.Cond.methodLinkNest "KnotReader$Cords" (89 : Nat) mn_KR_isValue "KnotReader" ∈ jk_nest := List.mem_of_getElem? (i := 22) (by decide +kernel)
