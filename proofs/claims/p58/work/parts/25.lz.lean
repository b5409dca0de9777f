/-! what the law's and the JDK's methods want of the cells and tables that nobody changes -/
def jl_ZK (Z : (Nat → Prop) → State → Heap → Prop) (sq iad : Nat → Nat) (z0 zi mi : Nat) : Prop := jk_ZK Z sq ∧ ∀ (A : Nat → Prop) (U : State) (H : Heap), Z A U H → vb_C iad A U H ∧ va_Z "java/lang/Integer$IntegerCache" "high" "I" (.int 127) A U H ∧ va_Z "java/lang/Integer$IntegerCache" "cache" "[Ljava/lang/Integer;" (.ref zi) A U H ∧ va_T (.object "java/lang/Integer") zi 256 (fun k => .ref (iad k)) A U H ∧ va_Z "java/util/ArrayList" "DEFAULTCAPACITY_EMPTY_ELEMENTDATA" "[Ljava/lang/Object;" (.ref z0) A U H ∧ va_T (.object "java/lang/Object") z0 0 (fun _ => .null) A U H ∧ va_AO "java/lang/Object" U ∧ va_Dc U ∧ va_Mi "[Ljava/lang/Object;" mi U
abbrev jl_ty (cI cR cO cB : ClassId) : List (ClassId × FieldType) := [(cI, .int), (cR, .object "KnotReader$Cords"), (cO, .object "java/lang/Object"), (cB, .byte)]
section LZ
variable {s : State} {A : Nat → Prop} {Z : (Nat → Prop) → State → Heap → Prop} {sq : Nat → Nat}
theorem ff_AL_add (hZ : jk_ZK Z sq) (hz : Z A s s.heap) : va_Fw "java/util/ArrayList" ⟨"java/util/List", "add", "(Ljava/lang/Object;)Z"⟩ mn_AL_add s := ⟨(jm_fw hZ hz (jm_fwi 809 (by decide +kernel) (by decide +kernel))), (jm_fw hZ hz (jm_fwi 808 (by decide +kernel) (by decide +kernel))), (jm_fw hZ hz (jm_fwi 813 (by decide +kernel) (by decide +kernel))), (jm_fw hZ hz (jm_fwi 811 (by decide +kernel) (by decide +kernel))), (jm_fw hZ hz (jm_fwi 639 (by decide +kernel) (by decide +kernel)))⟩
theorem fg_AL_add {own : String} {index : Nat} (h : Cond.methodLink own index ⟨"java/util/List", "add", "(Ljava/lang/Object;)Z"⟩ ∈ jk_WA) : ∀ w ∈ [Cond.methodLink own index ⟨"java/util/List", "add", "(Ljava/lang/Object;)Z"⟩, Cond.selects "java/util/ArrayList" ⟨"java/util/List", "add", "(Ljava/lang/Object;)Z"⟩ mn_AL_add, Cond.instanceMethod mn_AL_add, Cond.initialized mn_AL_add.cls], w ∈ jk_WA := by
  intro w hw
  rcases List.mem_cons.mp hw with rfl | hw
  · exact h
  rcases List.mem_cons.mp hw with rfl | hw
  · exact jk_tb 810 (by decide +kernel) (by decide +kernel)
  rcases List.mem_cons.mp hw with rfl | hw
  · exact xw_AL_add
  rcases List.mem_cons.mp hw with rfl | hw
  · exact iw_AL
  exact absurd hw List.not_mem_nil
theorem nf_AL_add : jk_nm ⟨"java/util/List", "add", "(Ljava/lang/Object;)Z"⟩ 1 := ⟨by decide +kernel, by decide +kernel, by decide +kernel⟩
theorem ff_AL_clear (hZ : jk_ZK Z sq) (hz : Z A s s.heap) : va_Fw "java/util/ArrayList" ⟨"java/util/List", "clear", "()V"⟩ mn_AL_clear s := ⟨(jm_fw hZ hz (jm_fwi 769 (by decide +kernel) (by decide +kernel))), (jm_fw hZ hz (jm_fwi 768 (by decide +kernel) (by decide +kernel))), (jm_fw hZ hz (jm_fwi 773 (by decide +kernel) (by decide +kernel))), (jm_fw hZ hz (jm_fwi 771 (by decide +kernel) (by decide +kernel))), (jm_fw hZ hz (jm_fwi 639 (by decide +kernel) (by decide +kernel)))⟩
theorem fg_AL_clear {own : String} {index : Nat} (h : Cond.methodLink own index ⟨"java/util/List", "clear", "()V"⟩ ∈ jk_WA) : ∀ w ∈ [Cond.methodLink own index ⟨"java/util/List", "clear", "()V"⟩, Cond.selects "java/util/ArrayList" ⟨"java/util/List", "clear", "()V"⟩ mn_AL_clear, Cond.instanceMethod mn_AL_clear, Cond.initialized mn_AL_clear.cls], w ∈ jk_WA := by
  intro w hw
  rcases List.mem_cons.mp hw with rfl | hw
  · exact h
  rcases List.mem_cons.mp hw with rfl | hw
  · exact jk_tb 770 (by decide +kernel) (by decide +kernel)
  rcases List.mem_cons.mp hw with rfl | hw
  · exact xw_AL_clear
  rcases List.mem_cons.mp hw with rfl | hw
  · exact iw_AL
  exact absurd hw List.not_mem_nil
theorem nf_AL_clear : jk_nm ⟨"java/util/List", "clear", "()V"⟩ 0 := ⟨by decide +kernel, by decide +kernel, by decide +kernel⟩
theorem ff_AL_get (hZ : jk_ZK Z sq) (hz : Z A s s.heap) : va_Fw "java/util/ArrayList" ⟨"java/util/List", "get", "(I)Ljava/lang/Object;"⟩ mn_AL_get s := ⟨(jm_fw hZ hz (jm_fwi 787 (by decide +kernel) (by decide +kernel))), (jm_fw hZ hz (jm_fwi 786 (by decide +kernel) (by decide +kernel))), (jm_fw hZ hz (jm_fwi 791 (by decide +kernel) (by decide +kernel))), (jm_fw hZ hz (jm_fwi 789 (by decide +kernel) (by decide +kernel))), (jm_fw hZ hz (jm_fwi 639 (by decide +kernel) (by decide +kernel)))⟩
theorem fg_AL_get {own : String} {index : Nat} (h : Cond.methodLink own index ⟨"java/util/List", "get", "(I)Ljava/lang/Object;"⟩ ∈ jk_WA) : ∀ w ∈ [Cond.methodLink own index ⟨"java/util/List", "get", "(I)Ljava/lang/Object;"⟩, Cond.selects "java/util/ArrayList" ⟨"java/util/List", "get", "(I)Ljava/lang/Object;"⟩ mn_AL_get, Cond.instanceMethod mn_AL_get, Cond.initialized mn_AL_get.cls], w ∈ jk_WA := by
  intro w hw
  rcases List.mem_cons.mp hw with rfl | hw
  · exact h
  rcases List.mem_cons.mp hw with rfl | hw
  · exact jk_tb 788 (by decide +kernel) (by decide +kernel)
  rcases List.mem_cons.mp hw with rfl | hw
  · exact xw_AL_get
  rcases List.mem_cons.mp hw with rfl | hw
  · exact iw_AL
  exact absurd hw List.not_mem_nil
theorem nf_AL_get : jk_nm ⟨"java/util/List", "get", "(I)Ljava/lang/Object;"⟩ 1 := ⟨by decide +kernel, by decide +kernel, by decide +kernel⟩
theorem ff_AL_isEmpty (hZ : jk_ZK Z sq) (hz : Z A s s.heap) : va_Fw "java/util/ArrayList" ⟨"java/util/List", "isEmpty", "()Z"⟩ mn_AL_isEmpty s := ⟨(jm_fw hZ hz (jm_fwi 1187 (by decide +kernel) (by decide +kernel))), (jm_fw hZ hz (jm_fwi 1186 (by decide +kernel) (by decide +kernel))), (jm_fw hZ hz (jm_fwi 1191 (by decide +kernel) (by decide +kernel))), (jm_fw hZ hz (jm_fwi 1189 (by decide +kernel) (by decide +kernel))), (jm_fw hZ hz (jm_fwi 639 (by decide +kernel) (by decide +kernel)))⟩
theorem fg_AL_isEmpty {own : String} {index : Nat} (h : Cond.methodLink own index ⟨"java/util/List", "isEmpty", "()Z"⟩ ∈ jk_WA) : ∀ w ∈ [Cond.methodLink own index ⟨"java/util/List", "isEmpty", "()Z"⟩, Cond.selects "java/util/ArrayList" ⟨"java/util/List", "isEmpty", "()Z"⟩ mn_AL_isEmpty, Cond.instanceMethod mn_AL_isEmpty, Cond.initialized mn_AL_isEmpty.cls], w ∈ jk_WA := by
  intro w hw
  rcases List.mem_cons.mp hw with rfl | hw
  · exact h
  rcases List.mem_cons.mp hw with rfl | hw
  · exact jk_tb 1188 (by decide +kernel) (by decide +kernel)
  rcases List.mem_cons.mp hw with rfl | hw
  · exact xw_AL_isEmpty
  rcases List.mem_cons.mp hw with rfl | hw
  · exact iw_AL
  exact absurd hw List.not_mem_nil
theorem nf_AL_isEmpty : jk_nm ⟨"java/util/List", "isEmpty", "()Z"⟩ 0 := ⟨by decide +kernel, by decide +kernel, by decide +kernel⟩
theorem ff_AL_iterator (hZ : jk_ZK Z sq) (hz : Z A s s.heap) : va_Fw "java/util/ArrayList" ⟨"java/util/List", "iterator", "()Ljava/util/Iterator;"⟩ mn_AL_iterator s := ⟨(jm_fw hZ hz (jm_fwi 638 (by decide +kernel) (by decide +kernel))), (jm_fw hZ hz (jm_fwi 637 (by decide +kernel) (by decide +kernel))), (jm_fw hZ hz (jm_fwi 643 (by decide +kernel) (by decide +kernel))), (jm_fw hZ hz (jm_fwi 641 (by decide +kernel) (by decide +kernel))), (jm_fw hZ hz (jm_fwi 639 (by decide +kernel) (by decide +kernel)))⟩
theorem fg_AL_iterator {own : String} {index : Nat} (h : Cond.methodLink own index ⟨"java/util/List", "iterator", "()Ljava/util/Iterator;"⟩ ∈ jk_WA) : ∀ w ∈ [Cond.methodLink own index ⟨"java/util/List", "iterator", "()Ljava/util/Iterator;"⟩, Cond.selects "java/util/ArrayList" ⟨"java/util/List", "iterator", "()Ljava/util/Iterator;"⟩ mn_AL_iterator, Cond.instanceMethod mn_AL_iterator, Cond.initialized mn_AL_iterator.cls], w ∈ jk_WA := by
  intro w hw
  rcases List.mem_cons.mp hw with rfl | hw
  · exact h
  rcases List.mem_cons.mp hw with rfl | hw
  · exact jk_tb 640 (by decide +kernel) (by decide +kernel)
  rcases List.mem_cons.mp hw with rfl | hw
  · exact xw_AL_iterator
  rcases List.mem_cons.mp hw with rfl | hw
  · exact iw_AL
  exact absurd hw List.not_mem_nil
theorem nf_AL_iterator : jk_nm ⟨"java/util/List", "iterator", "()Ljava/util/Iterator;"⟩ 0 := ⟨by decide +kernel, by decide +kernel, by decide +kernel⟩
theorem ff_AL_remove (hZ : jk_ZK Z sq) (hz : Z A s s.heap) : va_Fw "java/util/ArrayList" ⟨"java/util/List", "remove", "(I)Ljava/lang/Object;"⟩ mn_AL_remove s := ⟨(jm_fw hZ hz (jm_fwi 1312 (by decide +kernel) (by decide +kernel))), (jm_fw hZ hz (jm_fwi 1311 (by decide +kernel) (by decide +kernel))), (jm_fw hZ hz (jm_fwi 1316 (by decide +kernel) (by decide +kernel))), (jm_fw hZ hz (jm_fwi 1314 (by decide +kernel) (by decide +kernel))), (jm_fw hZ hz (jm_fwi 639 (by decide +kernel) (by decide +kernel)))⟩
theorem fg_AL_remove {own : String} {index : Nat} (h : Cond.methodLink own index ⟨"java/util/List", "remove", "(I)Ljava/lang/Object;"⟩ ∈ jk_WA) : ∀ w ∈ [Cond.methodLink own index ⟨"java/util/List", "remove", "(I)Ljava/lang/Object;"⟩, Cond.selects "java/util/ArrayList" ⟨"java/util/List", "remove", "(I)Ljava/lang/Object;"⟩ mn_AL_remove, Cond.instanceMethod mn_AL_remove, Cond.initialized mn_AL_remove.cls], w ∈ jk_WA := by
  intro w hw
  rcases List.mem_cons.mp hw with rfl | hw
  · exact h
  rcases List.mem_cons.mp hw with rfl | hw
  · exact jk_tb 1313 (by decide +kernel) (by decide +kernel)
  rcases List.mem_cons.mp hw with rfl | hw
  · exact xw_AL_remove
  rcases List.mem_cons.mp hw with rfl | hw
  · exact iw_AL
  exact absurd hw List.not_mem_nil
theorem nf_AL_remove : jk_nm ⟨"java/util/List", "remove", "(I)Ljava/lang/Object;"⟩ 1 := ⟨by decide +kernel, by decide +kernel, by decide +kernel⟩
theorem ff_AL_size (hZ : jk_ZK Z sq) (hz : Z A s s.heap) : va_Fw "java/util/ArrayList" ⟨"java/util/List", "size", "()I"⟩ mn_AL_size s := ⟨(jm_fw hZ hz (jm_fwi 778 (by decide +kernel) (by decide +kernel))), (jm_fw hZ hz (jm_fwi 777 (by decide +kernel) (by decide +kernel))), (jm_fw hZ hz (jm_fwi 782 (by decide +kernel) (by decide +kernel))), (jm_fw hZ hz (jm_fwi 780 (by decide +kernel) (by decide +kernel))), (jm_fw hZ hz (jm_fwi 639 (by decide +kernel) (by decide +kernel)))⟩
theorem fg_AL_size {own : String} {index : Nat} (h : Cond.methodLink own index ⟨"java/util/List", "size", "()I"⟩ ∈ jk_WA) : ∀ w ∈ [Cond.methodLink own index ⟨"java/util/List", "size", "()I"⟩, Cond.selects "java/util/ArrayList" ⟨"java/util/List", "size", "()I"⟩ mn_AL_size, Cond.instanceMethod mn_AL_size, Cond.initialized mn_AL_size.cls], w ∈ jk_WA := by
  intro w hw
  rcases List.mem_cons.mp hw with rfl | hw
  · exact h
  rcases List.mem_cons.mp hw with rfl | hw
  · exact jk_tb 779 (by decide +kernel) (by decide +kernel)
  rcases List.mem_cons.mp hw with rfl | hw
  · exact xw_AL_size
  rcases List.mem_cons.mp hw with rfl | hw
  · exact iw_AL
  exact absurd hw List.not_mem_nil
theorem nf_AL_size : jk_nm ⟨"java/util/List", "size", "()I"⟩ 0 := ⟨by decide +kernel, by decide +kernel, by decide +kernel⟩
theorem ff_It_hasNext (hZ : jk_ZK Z sq) (hz : Z A s s.heap) : va_Fw "java/util/ArrayList$Itr" ⟨"java/util/Iterator", "hasNext", "()Z"⟩ mn_It_hasNext s := ⟨(jm_fw hZ hz (jm_fwi 667 (by decide +kernel) (by decide +kernel))), (jm_fw hZ hz (jm_fwi 666 (by decide +kernel) (by decide +kernel))), (jm_fw hZ hz (jm_fwi 672 (by decide +kernel) (by decide +kernel))), (jm_fw hZ hz (jm_fwi 670 (by decide +kernel) (by decide +kernel))), (jm_fw hZ hz (jm_fwi 668 (by decide +kernel) (by decide +kernel)))⟩
theorem fg_It_hasNext {own : String} {index : Nat} (h : Cond.methodLink own index ⟨"java/util/Iterator", "hasNext", "()Z"⟩ ∈ jk_WA) : ∀ w ∈ [Cond.methodLink own index ⟨"java/util/Iterator", "hasNext", "()Z"⟩, Cond.selects "java/util/ArrayList$Itr" ⟨"java/util/Iterator", "hasNext", "()Z"⟩ mn_It_hasNext, Cond.instanceMethod mn_It_hasNext, Cond.initialized mn_It_hasNext.cls], w ∈ jk_WA := by
  intro w hw
  rcases List.mem_cons.mp hw with rfl | hw
  · exact h
  rcases List.mem_cons.mp hw with rfl | hw
  · exact jk_tb 669 (by decide +kernel) (by decide +kernel)
  rcases List.mem_cons.mp hw with rfl | hw
  · exact xw_It_hasNext
  rcases List.mem_cons.mp hw with rfl | hw
  · exact iw_It
  exact absurd hw List.not_mem_nil
theorem nf_It_hasNext : jk_nm ⟨"java/util/Iterator", "hasNext", "()Z"⟩ 0 := ⟨by decide +kernel, by decide +kernel, by decide +kernel⟩
theorem ff_It_next (hZ : jk_ZK Z sq) (hz : Z A s s.heap) : va_Fw "java/util/ArrayList$Itr" ⟨"java/util/Iterator", "next", "()Ljava/lang/Object;"⟩ mn_It_next s := ⟨(jm_fw hZ hz (jm_fwi 677 (by decide +kernel) (by decide +kernel))), (jm_fw hZ hz (jm_fwi 676 (by decide +kernel) (by decide +kernel))), (jm_fw hZ hz (jm_fwi 681 (by decide +kernel) (by decide +kernel))), (jm_fw hZ hz (jm_fwi 679 (by decide +kernel) (by decide +kernel))), (jm_fw hZ hz (jm_fwi 668 (by decide +kernel) (by decide +kernel)))⟩
theorem fg_It_next {own : String} {index : Nat} (h : Cond.methodLink own index ⟨"java/util/Iterator", "next", "()Ljava/lang/Object;"⟩ ∈ jk_WA) : ∀ w ∈ [Cond.methodLink own index ⟨"java/util/Iterator", "next", "()Ljava/lang/Object;"⟩, Cond.selects "java/util/ArrayList$Itr" ⟨"java/util/Iterator", "next", "()Ljava/lang/Object;"⟩ mn_It_next, Cond.instanceMethod mn_It_next, Cond.initialized mn_It_next.cls], w ∈ jk_WA := by
  intro w hw
  rcases List.mem_cons.mp hw with rfl | hw
  · exact h
  rcases List.mem_cons.mp hw with rfl | hw
  · exact jk_tb 678 (by decide +kernel) (by decide +kernel)
  rcases List.mem_cons.mp hw with rfl | hw
  · exact xw_It_next
  rcases List.mem_cons.mp hw with rfl | hw
  · exact iw_It
  exact absurd hw List.not_mem_nil
theorem nf_It_next : jk_nm ⟨"java/util/Iterator", "next", "()Ljava/lang/Object;"⟩ 0 := ⟨by decide +kernel, by decide +kernel, by decide +kernel⟩
theorem sf_modCount : Cond.sameField "java/util/ArrayList" "java/util/AbstractList" "modCount" "I" ∈ jk_WA := jk_tb 611 (by decide +kernel) (by decide +kernel)
theorem ca_Cd (hZ : jk_ZK Z sq) (hz : Z A s s.heap) : va_Nw (.castable "KnotReaderLaw$Cord" "java/lang/Object") s := (jm_fw hZ hz (jm_fwi 1600 (by decide +kernel) (by decide +kernel)))
theorem ca_Cu (hZ : jk_ZK Z sq) (hz : Z A s s.heap) : va_Nw (.castable "KnotReaderLaw$Cluster" "java/lang/Object") s := (jm_fw hZ hz (jm_fwi 1599 (by decide +kernel) (by decide +kernel)))
theorem ca_JInt (hZ : jk_ZK Z sq) (hz : Z A s s.heap) : va_Nw (.castable "java/lang/Integer" "java/lang/Object") s := (jm_fw hZ hz (jm_fwi 1588 (by decide +kernel) (by decide +kernel)))
end LZ
theorem xw_obj : Jvm.Cond.instanceMethod ({ cls := "java/lang/Object", name := "<init>", desc := "()V" } : Jvm.MethodName) ∈ jk_WA := jk_tb 46 (by decide +kernel) (by decide +kernel)
theorem cw_obj : Jvm.Cond.code ({ cls := "java/lang/Object", name := "<init>", desc := "()V" } : Jvm.MethodName) object_method_1_code (1 : Nat) none ∈ jk_WA := jk_tb 47 (by decide +kernel) (by decide +kernel)
theorem xw_acopy : Jvm.Cond.static ({ cls := "java/lang/System", name := "arraycopy", desc := "(Ljava/lang/Object;ILjava/lang/Object;II)V" } : Jvm.MethodName) ∈ jk_WA := jk_tb 874 (by decide +kernel) (by decide +kernel)
theorem tw_acopy : Jvm.Cond.native ({ cls := "java/lang/System", name := "arraycopy", desc := "(Ljava/lang/Object;ILjava/lang/Object;II)V" } : Jvm.MethodName) ∈ jk_WA := jk_tb 875 (by decide +kernel) (by decide +kernel)
