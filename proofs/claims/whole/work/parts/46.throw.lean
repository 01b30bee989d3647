theorem zq_0 : Cond.declares ⟨"java/lang/RuntimeException", "<init>", "(Ljava/lang/String;)V"⟩ ∈ wZ := List.mem_of_getElem? (i := 0) rfl
theorem zq_1 : Cond.declares ⟨"java/lang/Exception", "<init>", "(Ljava/lang/String;)V"⟩ ∈ wZ := List.mem_of_getElem? (i := 1) rfl
theorem zq_2 : Cond.declares ⟨"java/lang/Throwable", "<init>", "(Ljava/lang/String;)V"⟩ ∈ wZ := List.mem_of_getElem? (i := 2) rfl
theorem zq_3 : Cond.castable xI xI ∈ wZ := List.mem_of_getElem? (i := 3) rfl
theorem zq_4 : Cond.castable xA xA ∈ wZ := List.mem_of_getElem? (i := 4) rfl
theorem zq_5 : Cond.castable xS xS ∈ wZ := List.mem_of_getElem? (i := 5) rfl
theorem zq_6 : Cond.laysStatic "java/lang/Throwable" "UNASSIGNED_STACK" "[Ljava/lang/StackTraceElement;" ∈ wZ := List.mem_of_getElem? (i := 6) rfl
theorem zq_7 : Cond.laysStatic "java/lang/Throwable" "SUPPRESSED_SENTINEL" "Ljava/util/List;" ∈ wZ := List.mem_of_getElem? (i := 7) rfl
theorem zq_8 : Cond.isRef (.static "java/lang/Throwable" "UNASSIGNED_STACK" "[Ljava/lang/StackTraceElement;") ∈ wZ := List.mem_of_getElem? (i := 8) rfl
theorem zq_9 : Cond.isRef (.static "java/lang/Throwable" "SUPPRESSED_SENTINEL" "Ljava/util/List;") ∈ wZ := List.mem_of_getElem? (i := 9) rfl
theorem zq_10 : Cond.stringRef "CleanChecks" 54 "no such layer" ∈ wZ := List.mem_of_getElem? (i := 10) rfl
theorem zq_11 : Cond.stringRef "CleanChecks" 61 "no net" ∈ wZ := List.mem_of_getElem? (i := 11) rfl
theorem zq_12 : Cond.stringRef "CleanChecks" 64 "no kind of a shape" ∈ wZ := List.mem_of_getElem? (i := 12) rfl
theorem zq_13 : Cond.stringRef "CleanChecks" 199 "no such shape" ∈ wZ := List.mem_of_getElem? (i := 13) rfl
theorem zq_14 : Cond.stringRef "CleanChecks" 211 "the shape is closed" ∈ wZ := List.mem_of_getElem? (i := 14) rfl
theorem zq_15 : Cond.stringRef "CleanChecks" 87 "no place" ∈ wZ := List.mem_of_getElem? (i := 15) rfl
theorem zq_16 : Cond.stringRef "CleanChecks" 94 "no radius" ∈ wZ := List.mem_of_getElem? (i := 16) rfl
theorem zq_17 : Cond.stringRef "CleanChecks" 103 "no kind of a rule" ∈ wZ := List.mem_of_getElem? (i := 17) rfl
theorem zq_18 : Cond.stringRef "CleanChecks" 105 "no class" ∈ wZ := List.mem_of_getElem? (i := 18) rfl
theorem zq_19 : Cond.stringRef "CleanChecks" 107 "no value of such a rule" ∈ wZ := List.mem_of_getElem? (i := 19) rfl
theorem zq_20 : Cond.stringRef "CleanChecks" 117 "no class of a shape" ∈ wZ := List.mem_of_getElem? (i := 20) rfl
theorem zq_21 : Cond.stringRef "CleanChecks" 122 "no such number of workers" ∈ wZ := List.mem_of_getElem? (i := 21) rfl
theorem zq_22 : Cond.stringRef "CleanChecks" 214 "no such violation" ∈ wZ := List.mem_of_getElem? (i := 22) rfl
theorem zq_23 : Cond.stringRef "CleanChecks" 162 "a violation has no such part" ∈ wZ := List.mem_of_getElem? (i := 23) rfl
theorem zq_24 : Cond.stringRef "CleanChecks" 164 "no such axis" ∈ wZ := List.mem_of_getElem? (i := 24) rfl
theorem zq_25 : Cond.stringRef "CleanChecks" 173 "the box is turned" ∈ wZ := List.mem_of_getElem? (i := 25) rfl
theorem zq_26 : Cond.stringRef "CleanChecks" 197 "no such number of strips" ∈ wZ := List.mem_of_getElem? (i := 26) rfl
theorem q_395 : Cond.codeSync ⟨"java/lang/Throwable", "fillInStackTrace", "()Ljava/lang/Throwable;"⟩ prog_20_method_18_code 1 (some (FieldType.object "java/lang/Throwable")) ∈ wG := mT2 108 rfl rfl
theorem hat_xI : ∀ w ∈ Bundle.ownAtoms "CleanChecks" 56 xI xUp, w ∈ wG ∨ w ∈ wZ := by
  have e : Bundle.ownAtoms "CleanChecks" 56 xI xUp = [Cond.initialized "java/lang/Throwable", Cond.superclass "java/lang/Throwable" "java/lang/Object", Cond.instanceMethod ⟨"java/lang/Throwable", "fillInStackTrace", "()Ljava/lang/Throwable;"⟩, Cond.codeSync ⟨"java/lang/Throwable", "fillInStackTrace", "()Ljava/lang/Throwable;"⟩ prog_20_method_18_code 1 (some (FieldType.object "java/lang/Throwable")), Cond.instanceMethod ⟨"java/lang/Throwable", "fillInStackTrace", "(I)Ljava/lang/Throwable;"⟩, Cond.native ⟨"java/lang/Throwable", "fillInStackTrace", "(I)Ljava/lang/Throwable;"⟩, Cond.instanceMethod ⟨"java/lang/Throwable", "<init>", "()V"⟩, Cond.code ⟨"java/lang/Throwable", "<init>", "()V"⟩ prog_20_method_1_code 1 none, Cond.instanceMethod ⟨"java/lang/Object", "<init>", "()V"⟩, Cond.code ⟨"java/lang/Object", "<init>", "()V"⟩ object_method_1_code 1 none, Cond.methodLink "java/lang/Throwable" 1 ⟨"java/lang/Object", "<init>", "()V"⟩, Cond.methodLink "java/lang/Throwable" 27 ⟨"java/lang/Throwable", "fillInStackTrace", "()Ljava/lang/Throwable;"⟩, Cond.methodLink "java/lang/Throwable" 202 ⟨"java/lang/Throwable", "fillInStackTrace", "(I)Ljava/lang/Throwable;"⟩, Cond.fieldLink "java/lang/Throwable" 7 "java/lang/Throwable" "cause" "Ljava/lang/Throwable;", Cond.lays "java/lang/Throwable" "java/lang/Throwable" "cause" "Ljava/lang/Throwable;", Cond.fieldLink "java/lang/Throwable" 17 "java/lang/Throwable" "stackTrace" "[Ljava/lang/StackTraceElement;", Cond.lays "java/lang/Throwable" "java/lang/Throwable" "stackTrace" "[Ljava/lang/StackTraceElement;", Cond.fieldLink "java/lang/Throwable" 24 "java/lang/Throwable" "suppressedExceptions" "Ljava/util/List;", Cond.lays "java/lang/Throwable" "java/lang/Throwable" "suppressedExceptions" "Ljava/util/List;", Cond.fieldLink "java/lang/Throwable" 13 "java/lang/Throwable" "UNASSIGNED_STACK" "[Ljava/lang/StackTraceElement;", Cond.laysStatic "java/lang/Throwable" "UNASSIGNED_STACK" "[Ljava/lang/StackTraceElement;", Cond.fieldLink "java/lang/Throwable" 20 "java/lang/Throwable" "SUPPRESSED_SENTINEL" "Ljava/util/List;", Cond.laysStatic "java/lang/Throwable" "SUPPRESSED_SENTINEL" "Ljava/util/List;", Cond.lays "java/lang/Throwable" "java/lang/Throwable" "detailMessage" "Ljava/lang/String;", Cond.instanceMethod ⟨"java/lang/Throwable", "<init>", "(Ljava/lang/String;)V"⟩, Cond.code ⟨"java/lang/Throwable", "<init>", "(Ljava/lang/String;)V"⟩ prog_20_method_2_code 2 none, Cond.fieldLink "java/lang/Throwable" 31 "java/lang/Throwable" "detailMessage" "Ljava/lang/String;", Cond.lays "java/lang/Throwable" "java/lang/Throwable" "detailMessage" "Ljava/lang/String;", Cond.instanceMethod ⟨"java/lang/IndexOutOfBoundsException", "<init>", "(Ljava/lang/String;)V"⟩, Cond.code ⟨"java/lang/IndexOutOfBoundsException", "<init>", "(Ljava/lang/String;)V"⟩ prog_12_method_2_code 2 none, Cond.methodLink "java/lang/IndexOutOfBoundsException" 7 ⟨"java/lang/RuntimeException", "<init>", "(Ljava/lang/String;)V"⟩, Cond.instanceMethod ⟨"java/lang/RuntimeException", "<init>", "(Ljava/lang/String;)V"⟩, Cond.declares ⟨"java/lang/RuntimeException", "<init>", "(Ljava/lang/String;)V"⟩, Cond.instanceMethod ⟨"java/lang/RuntimeException", "<init>", "(Ljava/lang/String;)V"⟩, Cond.code ⟨"java/lang/RuntimeException", "<init>", "(Ljava/lang/String;)V"⟩ prog_17_method_2_code 2 none, Cond.methodLink "java/lang/RuntimeException" 7 ⟨"java/lang/Exception", "<init>", "(Ljava/lang/String;)V"⟩, Cond.instanceMethod ⟨"java/lang/Exception", "<init>", "(Ljava/lang/String;)V"⟩, Cond.declares ⟨"java/lang/Exception", "<init>", "(Ljava/lang/String;)V"⟩, Cond.instanceMethod ⟨"java/lang/Exception", "<init>", "(Ljava/lang/String;)V"⟩, Cond.code ⟨"java/lang/Exception", "<init>", "(Ljava/lang/String;)V"⟩ prog_9_method_2_code 2 none, Cond.methodLink "java/lang/Exception" 7 ⟨"java/lang/Throwable", "<init>", "(Ljava/lang/String;)V"⟩, Cond.instanceMethod ⟨"java/lang/Throwable", "<init>", "(Ljava/lang/String;)V"⟩, Cond.declares ⟨"java/lang/Throwable", "<init>", "(Ljava/lang/String;)V"⟩, Cond.methodLink "CleanChecks" 56 ⟨"java/lang/IndexOutOfBoundsException", "<init>", "(Ljava/lang/String;)V"⟩, Cond.instantiable "java/lang/IndexOutOfBoundsException" 6, Cond.castable "java/lang/IndexOutOfBoundsException" "java/lang/IndexOutOfBoundsException", Cond.selects "java/lang/IndexOutOfBoundsException" ⟨"java/lang/Throwable", "fillInStackTrace", "(I)Ljava/lang/Throwable;"⟩ ⟨"java/lang/Throwable", "fillInStackTrace", "(I)Ljava/lang/Throwable;"⟩, Cond.selects "java/lang/IndexOutOfBoundsException" ⟨"java/lang/Throwable", "fillInStackTrace", "()Ljava/lang/Throwable;"⟩ ⟨"java/lang/Throwable", "fillInStackTrace", "()Ljava/lang/Throwable;"⟩, Cond.lays "java/lang/IndexOutOfBoundsException" "java/lang/Throwable" "cause" "Ljava/lang/Throwable;", Cond.lays "java/lang/IndexOutOfBoundsException" "java/lang/Throwable" "stackTrace" "[Ljava/lang/StackTraceElement;", Cond.lays "java/lang/IndexOutOfBoundsException" "java/lang/Throwable" "suppressedExceptions" "Ljava/util/List;", Cond.lays "java/lang/IndexOutOfBoundsException" "java/lang/Throwable" "detailMessage" "Ljava/lang/String;", Cond.isRef (.static "java/lang/Throwable" "UNASSIGNED_STACK" "[Ljava/lang/StackTraceElement;"), Cond.isRef (.static "java/lang/Throwable" "SUPPRESSED_SENTINEL" "Ljava/util/List;"), Cond.fieldLink "java/lang/Throwable" 198 "java/lang/Throwable" "backtrace" "Ljava/lang/Object;", Cond.lays "java/lang/Throwable" "java/lang/Throwable" "backtrace" "Ljava/lang/Object;", Cond.lays "java/lang/IndexOutOfBoundsException" "java/lang/Throwable" "backtrace" "Ljava/lang/Object;"] := rfl
  rw [e]
  refine List.forall_mem_cons.mpr ⟨Or.inl q_55, ?_⟩
  refine List.forall_mem_cons.mpr ⟨Or.inl q_382, ?_⟩
  refine List.forall_mem_cons.mpr ⟨Or.inl q_391, ?_⟩
  refine List.forall_mem_cons.mpr ⟨Or.inl q_395, ?_⟩
  refine List.forall_mem_cons.mpr ⟨Or.inl q_398, ?_⟩
  refine List.forall_mem_cons.mpr ⟨Or.inl q_400, ?_⟩
  refine List.forall_mem_cons.mpr ⟨Or.inl q_383, ?_⟩
  refine List.forall_mem_cons.mpr ⟨Or.inl q_384, ?_⟩
  refine List.forall_mem_cons.mpr ⟨Or.inl q_76, ?_⟩
  refine List.forall_mem_cons.mpr ⟨Or.inl q_77, ?_⟩
  refine List.forall_mem_cons.mpr ⟨Or.inl q_385, ?_⟩
  refine List.forall_mem_cons.mpr ⟨Or.inl q_390, ?_⟩
  refine List.forall_mem_cons.mpr ⟨Or.inl q_396, ?_⟩
  refine List.forall_mem_cons.mpr ⟨Or.inl q_416, ?_⟩
  refine List.forall_mem_cons.mpr ⟨Or.inl q_372, ?_⟩
  refine List.forall_mem_cons.mpr ⟨Or.inl q_417, ?_⟩
  refine List.forall_mem_cons.mpr ⟨Or.inl q_374, ?_⟩
  refine List.forall_mem_cons.mpr ⟨Or.inl q_418, ?_⟩
  refine List.forall_mem_cons.mpr ⟨Or.inl q_376, ?_⟩
  refine List.forall_mem_cons.mpr ⟨Or.inl q_386, ?_⟩
  refine List.forall_mem_cons.mpr ⟨Or.inr zq_6, ?_⟩
  refine List.forall_mem_cons.mpr ⟨Or.inl q_388, ?_⟩
  refine List.forall_mem_cons.mpr ⟨Or.inr zq_7, ?_⟩
  refine List.forall_mem_cons.mpr ⟨Or.inl q_378, ?_⟩
  refine List.forall_mem_cons.mpr ⟨Or.inl q_412, ?_⟩
  refine List.forall_mem_cons.mpr ⟨Or.inl q_413, ?_⟩
  refine List.forall_mem_cons.mpr ⟨Or.inl q_415, ?_⟩
  refine List.forall_mem_cons.mpr ⟨Or.inl q_378, ?_⟩
  refine List.forall_mem_cons.mpr ⟨Or.inl q_403, ?_⟩
  refine List.forall_mem_cons.mpr ⟨Or.inl q_404, ?_⟩
  refine List.forall_mem_cons.mpr ⟨Or.inl q_405, ?_⟩
  refine List.forall_mem_cons.mpr ⟨Or.inl q_406, ?_⟩
  refine List.forall_mem_cons.mpr ⟨Or.inr zq_0, ?_⟩
  refine List.forall_mem_cons.mpr ⟨Or.inl q_406, ?_⟩
  refine List.forall_mem_cons.mpr ⟨Or.inl q_407, ?_⟩
  refine List.forall_mem_cons.mpr ⟨Or.inl q_408, ?_⟩
  refine List.forall_mem_cons.mpr ⟨Or.inl q_409, ?_⟩
  refine List.forall_mem_cons.mpr ⟨Or.inr zq_1, ?_⟩
  refine List.forall_mem_cons.mpr ⟨Or.inl q_409, ?_⟩
  refine List.forall_mem_cons.mpr ⟨Or.inl q_410, ?_⟩
  refine List.forall_mem_cons.mpr ⟨Or.inl q_411, ?_⟩
  refine List.forall_mem_cons.mpr ⟨Or.inl q_412, ?_⟩
  refine List.forall_mem_cons.mpr ⟨Or.inr zq_2, ?_⟩
  refine List.forall_mem_cons.mpr ⟨Or.inl q_402, ?_⟩
  refine List.forall_mem_cons.mpr ⟨Or.inl q_361, ?_⟩
  refine List.forall_mem_cons.mpr ⟨Or.inr zq_3, ?_⟩
  refine List.forall_mem_cons.mpr ⟨Or.inl q_369, ?_⟩
  refine List.forall_mem_cons.mpr ⟨Or.inl q_370, ?_⟩
  refine List.forall_mem_cons.mpr ⟨Or.inl q_371, ?_⟩
  refine List.forall_mem_cons.mpr ⟨Or.inl q_373, ?_⟩
  refine List.forall_mem_cons.mpr ⟨Or.inl q_375, ?_⟩
  refine List.forall_mem_cons.mpr ⟨Or.inl q_377, ?_⟩
  refine List.forall_mem_cons.mpr ⟨Or.inr zq_8, ?_⟩
  refine List.forall_mem_cons.mpr ⟨Or.inr zq_9, ?_⟩
  refine List.forall_mem_cons.mpr ⟨Or.inl q_381, ?_⟩
  refine List.forall_mem_cons.mpr ⟨Or.inl q_380, ?_⟩
  refine List.forall_mem_cons.mpr ⟨Or.inl q_379, ?_⟩
  intro w h
  cases h
theorem hat_xA : ∀ w ∈ Bundle.ownAtoms "CleanChecks" 63 xA xUp, w ∈ wG ∨ w ∈ wZ := by
  have e : Bundle.ownAtoms "CleanChecks" 63 xA xUp = [Cond.initialized "java/lang/Throwable", Cond.superclass "java/lang/Throwable" "java/lang/Object", Cond.instanceMethod ⟨"java/lang/Throwable", "fillInStackTrace", "()Ljava/lang/Throwable;"⟩, Cond.codeSync ⟨"java/lang/Throwable", "fillInStackTrace", "()Ljava/lang/Throwable;"⟩ prog_20_method_18_code 1 (some (FieldType.object "java/lang/Throwable")), Cond.instanceMethod ⟨"java/lang/Throwable", "fillInStackTrace", "(I)Ljava/lang/Throwable;"⟩, Cond.native ⟨"java/lang/Throwable", "fillInStackTrace", "(I)Ljava/lang/Throwable;"⟩, Cond.instanceMethod ⟨"java/lang/Throwable", "<init>", "()V"⟩, Cond.code ⟨"java/lang/Throwable", "<init>", "()V"⟩ prog_20_method_1_code 1 none, Cond.instanceMethod ⟨"java/lang/Object", "<init>", "()V"⟩, Cond.code ⟨"java/lang/Object", "<init>", "()V"⟩ object_method_1_code 1 none, Cond.methodLink "java/lang/Throwable" 1 ⟨"java/lang/Object", "<init>", "()V"⟩, Cond.methodLink "java/lang/Throwable" 27 ⟨"java/lang/Throwable", "fillInStackTrace", "()Ljava/lang/Throwable;"⟩, Cond.methodLink "java/lang/Throwable" 202 ⟨"java/lang/Throwable", "fillInStackTrace", "(I)Ljava/lang/Throwable;"⟩, Cond.fieldLink "java/lang/Throwable" 7 "java/lang/Throwable" "cause" "Ljava/lang/Throwable;", Cond.lays "java/lang/Throwable" "java/lang/Throwable" "cause" "Ljava/lang/Throwable;", Cond.fieldLink "java/lang/Throwable" 17 "java/lang/Throwable" "stackTrace" "[Ljava/lang/StackTraceElement;", Cond.lays "java/lang/Throwable" "java/lang/Throwable" "stackTrace" "[Ljava/lang/StackTraceElement;", Cond.fieldLink "java/lang/Throwable" 24 "java/lang/Throwable" "suppressedExceptions" "Ljava/util/List;", Cond.lays "java/lang/Throwable" "java/lang/Throwable" "suppressedExceptions" "Ljava/util/List;", Cond.fieldLink "java/lang/Throwable" 13 "java/lang/Throwable" "UNASSIGNED_STACK" "[Ljava/lang/StackTraceElement;", Cond.laysStatic "java/lang/Throwable" "UNASSIGNED_STACK" "[Ljava/lang/StackTraceElement;", Cond.fieldLink "java/lang/Throwable" 20 "java/lang/Throwable" "SUPPRESSED_SENTINEL" "Ljava/util/List;", Cond.laysStatic "java/lang/Throwable" "SUPPRESSED_SENTINEL" "Ljava/util/List;", Cond.lays "java/lang/Throwable" "java/lang/Throwable" "detailMessage" "Ljava/lang/String;", Cond.instanceMethod ⟨"java/lang/Throwable", "<init>", "(Ljava/lang/String;)V"⟩, Cond.code ⟨"java/lang/Throwable", "<init>", "(Ljava/lang/String;)V"⟩ prog_20_method_2_code 2 none, Cond.fieldLink "java/lang/Throwable" 31 "java/lang/Throwable" "detailMessage" "Ljava/lang/String;", Cond.lays "java/lang/Throwable" "java/lang/Throwable" "detailMessage" "Ljava/lang/String;", Cond.instanceMethod ⟨"java/lang/IllegalArgumentException", "<init>", "(Ljava/lang/String;)V"⟩, Cond.code ⟨"java/lang/IllegalArgumentException", "<init>", "(Ljava/lang/String;)V"⟩ prog_10_method_2_code 2 none, Cond.methodLink "java/lang/IllegalArgumentException" 7 ⟨"java/lang/RuntimeException", "<init>", "(Ljava/lang/String;)V"⟩, Cond.instanceMethod ⟨"java/lang/RuntimeException", "<init>", "(Ljava/lang/String;)V"⟩, Cond.declares ⟨"java/lang/RuntimeException", "<init>", "(Ljava/lang/String;)V"⟩, Cond.instanceMethod ⟨"java/lang/RuntimeException", "<init>", "(Ljava/lang/String;)V"⟩, Cond.code ⟨"java/lang/RuntimeException", "<init>", "(Ljava/lang/String;)V"⟩ prog_17_method_2_code 2 none, Cond.methodLink "java/lang/RuntimeException" 7 ⟨"java/lang/Exception", "<init>", "(Ljava/lang/String;)V"⟩, Cond.instanceMethod ⟨"java/lang/Exception", "<init>", "(Ljava/lang/String;)V"⟩, Cond.declares ⟨"java/lang/Exception", "<init>", "(Ljava/lang/String;)V"⟩, Cond.instanceMethod ⟨"java/lang/Exception", "<init>", "(Ljava/lang/String;)V"⟩, Cond.code ⟨"java/lang/Exception", "<init>", "(Ljava/lang/String;)V"⟩ prog_9_method_2_code 2 none, Cond.methodLink "java/lang/Exception" 7 ⟨"java/lang/Throwable", "<init>", "(Ljava/lang/String;)V"⟩, Cond.instanceMethod ⟨"java/lang/Throwable", "<init>", "(Ljava/lang/String;)V"⟩, Cond.declares ⟨"java/lang/Throwable", "<init>", "(Ljava/lang/String;)V"⟩, Cond.methodLink "CleanChecks" 63 ⟨"java/lang/IllegalArgumentException", "<init>", "(Ljava/lang/String;)V"⟩, Cond.instantiable "java/lang/IllegalArgumentException" 6, Cond.castable "java/lang/IllegalArgumentException" "java/lang/IllegalArgumentException", Cond.selects "java/lang/IllegalArgumentException" ⟨"java/lang/Throwable", "fillInStackTrace", "(I)Ljava/lang/Throwable;"⟩ ⟨"java/lang/Throwable", "fillInStackTrace", "(I)Ljava/lang/Throwable;"⟩, Cond.selects "java/lang/IllegalArgumentException" ⟨"java/lang/Throwable", "fillInStackTrace", "()Ljava/lang/Throwable;"⟩ ⟨"java/lang/Throwable", "fillInStackTrace", "()Ljava/lang/Throwable;"⟩, Cond.lays "java/lang/IllegalArgumentException" "java/lang/Throwable" "cause" "Ljava/lang/Throwable;", Cond.lays "java/lang/IllegalArgumentException" "java/lang/Throwable" "stackTrace" "[Ljava/lang/StackTraceElement;", Cond.lays "java/lang/IllegalArgumentException" "java/lang/Throwable" "suppressedExceptions" "Ljava/util/List;", Cond.lays "java/lang/IllegalArgumentException" "java/lang/Throwable" "detailMessage" "Ljava/lang/String;", Cond.isRef (.static "java/lang/Throwable" "UNASSIGNED_STACK" "[Ljava/lang/StackTraceElement;"), Cond.isRef (.static "java/lang/Throwable" "SUPPRESSED_SENTINEL" "Ljava/util/List;"), Cond.fieldLink "java/lang/Throwable" 198 "java/lang/Throwable" "backtrace" "Ljava/lang/Object;", Cond.lays "java/lang/Throwable" "java/lang/Throwable" "backtrace" "Ljava/lang/Object;", Cond.lays "java/lang/IllegalArgumentException" "java/lang/Throwable" "backtrace" "Ljava/lang/Object;"] := rfl
  rw [e]
  refine List.forall_mem_cons.mpr ⟨Or.inl q_55, ?_⟩
  refine List.forall_mem_cons.mpr ⟨Or.inl q_382, ?_⟩
  refine List.forall_mem_cons.mpr ⟨Or.inl q_391, ?_⟩
  refine List.forall_mem_cons.mpr ⟨Or.inl q_395, ?_⟩
  refine List.forall_mem_cons.mpr ⟨Or.inl q_398, ?_⟩
  refine List.forall_mem_cons.mpr ⟨Or.inl q_400, ?_⟩
  refine List.forall_mem_cons.mpr ⟨Or.inl q_383, ?_⟩
  refine List.forall_mem_cons.mpr ⟨Or.inl q_384, ?_⟩
  refine List.forall_mem_cons.mpr ⟨Or.inl q_76, ?_⟩
  refine List.forall_mem_cons.mpr ⟨Or.inl q_77, ?_⟩
  refine List.forall_mem_cons.mpr ⟨Or.inl q_385, ?_⟩
  refine List.forall_mem_cons.mpr ⟨Or.inl q_390, ?_⟩
  refine List.forall_mem_cons.mpr ⟨Or.inl q_396, ?_⟩
  refine List.forall_mem_cons.mpr ⟨Or.inl q_416, ?_⟩
  refine List.forall_mem_cons.mpr ⟨Or.inl q_372, ?_⟩
  refine List.forall_mem_cons.mpr ⟨Or.inl q_417, ?_⟩
  refine List.forall_mem_cons.mpr ⟨Or.inl q_374, ?_⟩
  refine List.forall_mem_cons.mpr ⟨Or.inl q_418, ?_⟩
  refine List.forall_mem_cons.mpr ⟨Or.inl q_376, ?_⟩
  refine List.forall_mem_cons.mpr ⟨Or.inl q_386, ?_⟩
  refine List.forall_mem_cons.mpr ⟨Or.inr zq_6, ?_⟩
  refine List.forall_mem_cons.mpr ⟨Or.inl q_388, ?_⟩
  refine List.forall_mem_cons.mpr ⟨Or.inr zq_7, ?_⟩
  refine List.forall_mem_cons.mpr ⟨Or.inl q_378, ?_⟩
  refine List.forall_mem_cons.mpr ⟨Or.inl q_412, ?_⟩
  refine List.forall_mem_cons.mpr ⟨Or.inl q_413, ?_⟩
  refine List.forall_mem_cons.mpr ⟨Or.inl q_415, ?_⟩
  refine List.forall_mem_cons.mpr ⟨Or.inl q_378, ?_⟩
  refine List.forall_mem_cons.mpr ⟨Or.inl q_439, ?_⟩
  refine List.forall_mem_cons.mpr ⟨Or.inl q_440, ?_⟩
  refine List.forall_mem_cons.mpr ⟨Or.inl q_441, ?_⟩
  refine List.forall_mem_cons.mpr ⟨Or.inl q_406, ?_⟩
  refine List.forall_mem_cons.mpr ⟨Or.inr zq_0, ?_⟩
  refine List.forall_mem_cons.mpr ⟨Or.inl q_406, ?_⟩
  refine List.forall_mem_cons.mpr ⟨Or.inl q_407, ?_⟩
  refine List.forall_mem_cons.mpr ⟨Or.inl q_408, ?_⟩
  refine List.forall_mem_cons.mpr ⟨Or.inl q_409, ?_⟩
  refine List.forall_mem_cons.mpr ⟨Or.inr zq_1, ?_⟩
  refine List.forall_mem_cons.mpr ⟨Or.inl q_409, ?_⟩
  refine List.forall_mem_cons.mpr ⟨Or.inl q_410, ?_⟩
  refine List.forall_mem_cons.mpr ⟨Or.inl q_411, ?_⟩
  refine List.forall_mem_cons.mpr ⟨Or.inl q_412, ?_⟩
  refine List.forall_mem_cons.mpr ⟨Or.inr zq_2, ?_⟩
  refine List.forall_mem_cons.mpr ⟨Or.inl q_438, ?_⟩
  refine List.forall_mem_cons.mpr ⟨Or.inl q_429, ?_⟩
  refine List.forall_mem_cons.mpr ⟨Or.inr zq_4, ?_⟩
  refine List.forall_mem_cons.mpr ⟨Or.inl q_431, ?_⟩
  refine List.forall_mem_cons.mpr ⟨Or.inl q_393, ?_⟩
  refine List.forall_mem_cons.mpr ⟨Or.inl q_432, ?_⟩
  refine List.forall_mem_cons.mpr ⟨Or.inl q_433, ?_⟩
  refine List.forall_mem_cons.mpr ⟨Or.inl q_434, ?_⟩
  refine List.forall_mem_cons.mpr ⟨Or.inl q_435, ?_⟩
  refine List.forall_mem_cons.mpr ⟨Or.inr zq_8, ?_⟩
  refine List.forall_mem_cons.mpr ⟨Or.inr zq_9, ?_⟩
  refine List.forall_mem_cons.mpr ⟨Or.inl q_381, ?_⟩
  refine List.forall_mem_cons.mpr ⟨Or.inl q_380, ?_⟩
  refine List.forall_mem_cons.mpr ⟨Or.inl q_436, ?_⟩
  intro w h
  cases h
theorem hat_xS : ∀ w ∈ Bundle.ownAtoms "CleanChecks" 213 xS xUp, w ∈ wG ∨ w ∈ wZ := by
  have e : Bundle.ownAtoms "CleanChecks" 213 xS xUp = [Cond.initialized "java/lang/Throwable", Cond.superclass "java/lang/Throwable" "java/lang/Object", Cond.instanceMethod ⟨"java/lang/Throwable", "fillInStackTrace", "()Ljava/lang/Throwable;"⟩, Cond.codeSync ⟨"java/lang/Throwable", "fillInStackTrace", "()Ljava/lang/Throwable;"⟩ prog_20_method_18_code 1 (some (FieldType.object "java/lang/Throwable")), Cond.instanceMethod ⟨"java/lang/Throwable", "fillInStackTrace", "(I)Ljava/lang/Throwable;"⟩, Cond.native ⟨"java/lang/Throwable", "fillInStackTrace", "(I)Ljava/lang/Throwable;"⟩, Cond.instanceMethod ⟨"java/lang/Throwable", "<init>", "()V"⟩, Cond.code ⟨"java/lang/Throwable", "<init>", "()V"⟩ prog_20_method_1_code 1 none, Cond.instanceMethod ⟨"java/lang/Object", "<init>", "()V"⟩, Cond.code ⟨"java/lang/Object", "<init>", "()V"⟩ object_method_1_code 1 none, Cond.methodLink "java/lang/Throwable" 1 ⟨"java/lang/Object", "<init>", "()V"⟩, Cond.methodLink "java/lang/Throwable" 27 ⟨"java/lang/Throwable", "fillInStackTrace", "()Ljava/lang/Throwable;"⟩, Cond.methodLink "java/lang/Throwable" 202 ⟨"java/lang/Throwable", "fillInStackTrace", "(I)Ljava/lang/Throwable;"⟩, Cond.fieldLink "java/lang/Throwable" 7 "java/lang/Throwable" "cause" "Ljava/lang/Throwable;", Cond.lays "java/lang/Throwable" "java/lang/Throwable" "cause" "Ljava/lang/Throwable;", Cond.fieldLink "java/lang/Throwable" 17 "java/lang/Throwable" "stackTrace" "[Ljava/lang/StackTraceElement;", Cond.lays "java/lang/Throwable" "java/lang/Throwable" "stackTrace" "[Ljava/lang/StackTraceElement;", Cond.fieldLink "java/lang/Throwable" 24 "java/lang/Throwable" "suppressedExceptions" "Ljava/util/List;", Cond.lays "java/lang/Throwable" "java/lang/Throwable" "suppressedExceptions" "Ljava/util/List;", Cond.fieldLink "java/lang/Throwable" 13 "java/lang/Throwable" "UNASSIGNED_STACK" "[Ljava/lang/StackTraceElement;", Cond.laysStatic "java/lang/Throwable" "UNASSIGNED_STACK" "[Ljava/lang/StackTraceElement;", Cond.fieldLink "java/lang/Throwable" 20 "java/lang/Throwable" "SUPPRESSED_SENTINEL" "Ljava/util/List;", Cond.laysStatic "java/lang/Throwable" "SUPPRESSED_SENTINEL" "Ljava/util/List;", Cond.lays "java/lang/Throwable" "java/lang/Throwable" "detailMessage" "Ljava/lang/String;", Cond.instanceMethod ⟨"java/lang/Throwable", "<init>", "(Ljava/lang/String;)V"⟩, Cond.code ⟨"java/lang/Throwable", "<init>", "(Ljava/lang/String;)V"⟩ prog_20_method_2_code 2 none, Cond.fieldLink "java/lang/Throwable" 31 "java/lang/Throwable" "detailMessage" "Ljava/lang/String;", Cond.lays "java/lang/Throwable" "java/lang/Throwable" "detailMessage" "Ljava/lang/String;", Cond.instanceMethod ⟨"java/lang/IllegalStateException", "<init>", "(Ljava/lang/String;)V"⟩, Cond.code ⟨"java/lang/IllegalStateException", "<init>", "(Ljava/lang/String;)V"⟩ prog_11_method_2_code 2 none, Cond.methodLink "java/lang/IllegalStateException" 7 ⟨"java/lang/RuntimeException", "<init>", "(Ljava/lang/String;)V"⟩, Cond.instanceMethod ⟨"java/lang/RuntimeException", "<init>", "(Ljava/lang/String;)V"⟩, Cond.declares ⟨"java/lang/RuntimeException", "<init>", "(Ljava/lang/String;)V"⟩, Cond.instanceMethod ⟨"java/lang/RuntimeException", "<init>", "(Ljava/lang/String;)V"⟩, Cond.code ⟨"java/lang/RuntimeException", "<init>", "(Ljava/lang/String;)V"⟩ prog_17_method_2_code 2 none, Cond.methodLink "java/lang/RuntimeException" 7 ⟨"java/lang/Exception", "<init>", "(Ljava/lang/String;)V"⟩, Cond.instanceMethod ⟨"java/lang/Exception", "<init>", "(Ljava/lang/String;)V"⟩, Cond.declares ⟨"java/lang/Exception", "<init>", "(Ljava/lang/String;)V"⟩, Cond.instanceMethod ⟨"java/lang/Exception", "<init>", "(Ljava/lang/String;)V"⟩, Cond.code ⟨"java/lang/Exception", "<init>", "(Ljava/lang/String;)V"⟩ prog_9_method_2_code 2 none, Cond.methodLink "java/lang/Exception" 7 ⟨"java/lang/Throwable", "<init>", "(Ljava/lang/String;)V"⟩, Cond.instanceMethod ⟨"java/lang/Throwable", "<init>", "(Ljava/lang/String;)V"⟩, Cond.declares ⟨"java/lang/Throwable", "<init>", "(Ljava/lang/String;)V"⟩, Cond.methodLink "CleanChecks" 213 ⟨"java/lang/IllegalStateException", "<init>", "(Ljava/lang/String;)V"⟩, Cond.instantiable "java/lang/IllegalStateException" 6, Cond.castable "java/lang/IllegalStateException" "java/lang/IllegalStateException", Cond.selects "java/lang/IllegalStateException" ⟨"java/lang/Throwable", "fillInStackTrace", "(I)Ljava/lang/Throwable;"⟩ ⟨"java/lang/Throwable", "fillInStackTrace", "(I)Ljava/lang/Throwable;"⟩, Cond.selects "java/lang/IllegalStateException" ⟨"java/lang/Throwable", "fillInStackTrace", "()Ljava/lang/Throwable;"⟩ ⟨"java/lang/Throwable", "fillInStackTrace", "()Ljava/lang/Throwable;"⟩, Cond.lays "java/lang/IllegalStateException" "java/lang/Throwable" "cause" "Ljava/lang/Throwable;", Cond.lays "java/lang/IllegalStateException" "java/lang/Throwable" "stackTrace" "[Ljava/lang/StackTraceElement;", Cond.lays "java/lang/IllegalStateException" "java/lang/Throwable" "suppressedExceptions" "Ljava/util/List;", Cond.lays "java/lang/IllegalStateException" "java/lang/Throwable" "detailMessage" "Ljava/lang/String;", Cond.isRef (.static "java/lang/Throwable" "UNASSIGNED_STACK" "[Ljava/lang/StackTraceElement;"), Cond.isRef (.static "java/lang/Throwable" "SUPPRESSED_SENTINEL" "Ljava/util/List;"), Cond.fieldLink "java/lang/Throwable" 198 "java/lang/Throwable" "backtrace" "Ljava/lang/Object;", Cond.lays "java/lang/Throwable" "java/lang/Throwable" "backtrace" "Ljava/lang/Object;", Cond.lays "java/lang/IllegalStateException" "java/lang/Throwable" "backtrace" "Ljava/lang/Object;"] := rfl
  rw [e]
  refine List.forall_mem_cons.mpr ⟨Or.inl q_55, ?_⟩
  refine List.forall_mem_cons.mpr ⟨Or.inl q_382, ?_⟩
  refine List.forall_mem_cons.mpr ⟨Or.inl q_391, ?_⟩
  refine List.forall_mem_cons.mpr ⟨Or.inl q_395, ?_⟩
  refine List.forall_mem_cons.mpr ⟨Or.inl q_398, ?_⟩
  refine List.forall_mem_cons.mpr ⟨Or.inl q_400, ?_⟩
  refine List.forall_mem_cons.mpr ⟨Or.inl q_383, ?_⟩
  refine List.forall_mem_cons.mpr ⟨Or.inl q_384, ?_⟩
  refine List.forall_mem_cons.mpr ⟨Or.inl q_76, ?_⟩
  refine List.forall_mem_cons.mpr ⟨Or.inl q_77, ?_⟩
  refine List.forall_mem_cons.mpr ⟨Or.inl q_385, ?_⟩
  refine List.forall_mem_cons.mpr ⟨Or.inl q_390, ?_⟩
  refine List.forall_mem_cons.mpr ⟨Or.inl q_396, ?_⟩
  refine List.forall_mem_cons.mpr ⟨Or.inl q_416, ?_⟩
  refine List.forall_mem_cons.mpr ⟨Or.inl q_372, ?_⟩
  refine List.forall_mem_cons.mpr ⟨Or.inl q_417, ?_⟩
  refine List.forall_mem_cons.mpr ⟨Or.inl q_374, ?_⟩
  refine List.forall_mem_cons.mpr ⟨Or.inl q_418, ?_⟩
  refine List.forall_mem_cons.mpr ⟨Or.inl q_376, ?_⟩
  refine List.forall_mem_cons.mpr ⟨Or.inl q_386, ?_⟩
  refine List.forall_mem_cons.mpr ⟨Or.inr zq_6, ?_⟩
  refine List.forall_mem_cons.mpr ⟨Or.inl q_388, ?_⟩
  refine List.forall_mem_cons.mpr ⟨Or.inr zq_7, ?_⟩
  refine List.forall_mem_cons.mpr ⟨Or.inl q_378, ?_⟩
  refine List.forall_mem_cons.mpr ⟨Or.inl q_412, ?_⟩
  refine List.forall_mem_cons.mpr ⟨Or.inl q_413, ?_⟩
  refine List.forall_mem_cons.mpr ⟨Or.inl q_415, ?_⟩
  refine List.forall_mem_cons.mpr ⟨Or.inl q_378, ?_⟩
  refine List.forall_mem_cons.mpr ⟨Or.inl q_568, ?_⟩
  refine List.forall_mem_cons.mpr ⟨Or.inl q_569, ?_⟩
  refine List.forall_mem_cons.mpr ⟨Or.inl q_570, ?_⟩
  refine List.forall_mem_cons.mpr ⟨Or.inl q_406, ?_⟩
  refine List.forall_mem_cons.mpr ⟨Or.inr zq_0, ?_⟩
  refine List.forall_mem_cons.mpr ⟨Or.inl q_406, ?_⟩
  refine List.forall_mem_cons.mpr ⟨Or.inl q_407, ?_⟩
  refine List.forall_mem_cons.mpr ⟨Or.inl q_408, ?_⟩
  refine List.forall_mem_cons.mpr ⟨Or.inl q_409, ?_⟩
  refine List.forall_mem_cons.mpr ⟨Or.inr zq_1, ?_⟩
  refine List.forall_mem_cons.mpr ⟨Or.inl q_409, ?_⟩
  refine List.forall_mem_cons.mpr ⟨Or.inl q_410, ?_⟩
  refine List.forall_mem_cons.mpr ⟨Or.inl q_411, ?_⟩
  refine List.forall_mem_cons.mpr ⟨Or.inl q_412, ?_⟩
  refine List.forall_mem_cons.mpr ⟨Or.inr zq_2, ?_⟩
  refine List.forall_mem_cons.mpr ⟨Or.inl q_567, ?_⟩
  refine List.forall_mem_cons.mpr ⟨Or.inl q_558, ?_⟩
  refine List.forall_mem_cons.mpr ⟨Or.inr zq_5, ?_⟩
  refine List.forall_mem_cons.mpr ⟨Or.inl q_560, ?_⟩
  refine List.forall_mem_cons.mpr ⟨Or.inl q_394, ?_⟩
  refine List.forall_mem_cons.mpr ⟨Or.inl q_561, ?_⟩
  refine List.forall_mem_cons.mpr ⟨Or.inl q_562, ?_⟩
  refine List.forall_mem_cons.mpr ⟨Or.inl q_563, ?_⟩
  refine List.forall_mem_cons.mpr ⟨Or.inl q_564, ?_⟩
  refine List.forall_mem_cons.mpr ⟨Or.inr zq_8, ?_⟩
  refine List.forall_mem_cons.mpr ⟨Or.inr zq_9, ?_⟩
  refine List.forall_mem_cons.mpr ⟨Or.inl q_381, ?_⟩
  refine List.forall_mem_cons.mpr ⟨Or.inl q_380, ?_⟩
  refine List.forall_mem_cons.mpr ⟨Or.inl q_565, ?_⟩
  intro w h
  cases h
def jc_shape (w : CW) (net lay kd : Int32) : Nat := (if lay < 0 then 1 else (if lay < cLay w then (if net < (-1) then 2 else (if net ≤ 999 then (if kd < 0 then 2 else (if kd ≤ 3 then 0 else 2)) else 2)) else 1))
set_option maxHeartbeats 4000000 in
set_option maxRecDepth 100000 in
theorem c_C_shape_t1 (l : Launch) (hfl : l.flags = pinnedFlags ++ [noTraceFlag]) (g : EG) (ws : va_W) (w : CW) (net lay kd : Int32) (hC : Cin0 g ws w) (hk : Cok0 w) (hbad : jc_shape w net lay kd = 1) : Th l g ws y_C_shape prog_1_method_2_code 5 (some FieldType.int) 6 100 1 6 [.ref (cA w), .int net, .int lay, .int kd] xI := by
  refine Th.start (by decide +kernel) hfl (Nat.le_of_ble_eq_true rfl) ?_
  intro p e s m below meth c ls hx hb hr hml hown hG hlk hP hK hZ hexc htr hl
  have hl : lv_has ls 5 [(0, .ref (cA w)), (1, .int net), (2, .int lay), (3, .int kd)] := hl
  have hown : s.vm.findClass "CleanChecks" = some m.cls := hown
  refine lv_iload_n hx hb d_C_shape_0 rfl (lv_at hl 2 rfl) ?_
  refine lv_if_lt (tgt := 12) hx hb d_C_shape_1 (by decide) (fun c_1 => ?_) (fun c_1 => ?_)
  · exact thr_new (str := "no such layer") (ik := 52) (is := 54) (ic := 56) (E := xI) hx hb (hml.trans hl.1.symm) hG hown hZ hexc htr hlk q_360 q_361 q_58 zq_10 hat_xI (by decide +kernel) ⟨Nat.le_of_ble_eq_true rfl, Nat.le_of_ble_eq_true rfl, Nat.le_of_ble_eq_true rfl, Nat.le_of_ble_eq_true rfl⟩ (Nat.le_of_ble_eq_true rfl) d_C_shape_12 d_C_shape_15 d_C_shape_16 d_C_shape_18 d_C_shape_21
  · refine lv_iload_n hx hb d_C_shape_4 rfl (lv_at hl 2 rfl) ?_
    refine lv_aload_n hx hb d_C_shape_5 rfl (lv_at hl 0 rfl) ?_
    refine rget hx hb hG hown hK hP hC.1 rfl in_C 0 (by decide) q_125 rfl rfl d_C_shape_6 ?_
    refine lv_icmp_lt (tgt := 22) hx hb d_C_shape_9 (by decide) (fun c_2 => ?_) (fun c_2 => ?_)
    · refine lv_iload_n hx hb d_C_shape_22 rfl (lv_at hl 1 rfl) ?_
      refine lv_iconst (v := (-1)) hx hb d_C_shape_23 (by decide) ?_
      refine lv_icmp_lt (tgt := 34) hx hb d_C_shape_24 (by decide) (fun c_3 => ?_) (fun c_3 => ?_)
      · exact absurd hbad (by unfold jc_shape; simp only [if_neg c_1, if_pos c_2, if_pos c_3]; decide)
      · refine lv_iload_n hx hb d_C_shape_27 rfl (lv_at hl 1 rfl) ?_
        refine lv_sipush (v := 999) hx hb d_C_shape_28 (by decide) ?_
        refine lv_icmp_le (tgt := 44) hx hb d_C_shape_31 (by decide) (fun c_4 => ?_) (fun c_4 => ?_)
        · refine lv_iload_n hx hb d_C_shape_44 rfl (lv_at hl 3 rfl) ?_
          refine lv_if_lt (tgt := 53) hx hb d_C_shape_45 (by decide) (fun c_5 => ?_) (fun c_5 => ?_)
          · exact absurd hbad (by unfold jc_shape; simp only [if_neg c_1, if_pos c_2, if_neg c_3, if_pos c_4, if_pos c_5]; decide)
          · refine lv_iload_n hx hb d_C_shape_48 rfl (lv_at hl 3 rfl) ?_
            refine lv_iconst (v := 3) hx hb d_C_shape_49 (by decide) ?_
            refine lv_icmp_le (tgt := 63) hx hb d_C_shape_50 (by decide) (fun c_6 => ?_) (fun c_6 => ?_)
            · exact absurd hbad (by unfold jc_shape; simp only [if_neg c_1, if_pos c_2, if_neg c_3, if_pos c_4, if_neg c_5, if_pos c_6]; decide)
            · exact absurd hbad (by unfold jc_shape; simp only [if_neg c_1, if_pos c_2, if_neg c_3, if_pos c_4, if_neg c_5, if_neg c_6]; decide)
        · exact absurd hbad (by unfold jc_shape; simp only [if_neg c_1, if_pos c_2, if_neg c_3, if_neg c_4]; decide)
    · exact thr_new (str := "no such layer") (ik := 52) (is := 54) (ic := 56) (E := xI) hx hb (hml.trans hl.1.symm) hG hown hZ hexc htr hlk q_360 q_361 q_58 zq_10 hat_xI (by decide +kernel) ⟨Nat.le_of_ble_eq_true rfl, Nat.le_of_ble_eq_true rfl, Nat.le_of_ble_eq_true rfl, Nat.le_of_ble_eq_true rfl⟩ (Nat.le_of_ble_eq_true rfl) d_C_shape_12 d_C_shape_15 d_C_shape_16 d_C_shape_18 d_C_shape_21
set_option maxHeartbeats 4000000 in
set_option maxRecDepth 100000 in
theorem c_C_shape_t2 (l : Launch) (hfl : l.flags = pinnedFlags ++ [noTraceFlag]) (g : EG) (ws : va_W) (w : CW) (net lay kd : Int32) (hC : Cin0 g ws w) (hk : Cok0 w) (hbad : jc_shape w net lay kd = 2) : Th l g ws y_C_shape prog_1_method_2_code 5 (some FieldType.int) 6 100 1 6 [.ref (cA w), .int net, .int lay, .int kd] xA := by
  refine Th.start (by decide +kernel) hfl (Nat.le_of_ble_eq_true rfl) ?_
  intro p e s m below meth c ls hx hb hr hml hown hG hlk hP hK hZ hexc htr hl
  have hl : lv_has ls 5 [(0, .ref (cA w)), (1, .int net), (2, .int lay), (3, .int kd)] := hl
  have hown : s.vm.findClass "CleanChecks" = some m.cls := hown
  refine lv_iload_n hx hb d_C_shape_0 rfl (lv_at hl 2 rfl) ?_
  refine lv_if_lt (tgt := 12) hx hb d_C_shape_1 (by decide) (fun c_1 => ?_) (fun c_1 => ?_)
  · exact absurd hbad (by unfold jc_shape; simp only [if_pos c_1]; decide)
  · refine lv_iload_n hx hb d_C_shape_4 rfl (lv_at hl 2 rfl) ?_
    refine lv_aload_n hx hb d_C_shape_5 rfl (lv_at hl 0 rfl) ?_
    refine rget hx hb hG hown hK hP hC.1 rfl in_C 0 (by decide) q_125 rfl rfl d_C_shape_6 ?_
    refine lv_icmp_lt (tgt := 22) hx hb d_C_shape_9 (by decide) (fun c_2 => ?_) (fun c_2 => ?_)
    · refine lv_iload_n hx hb d_C_shape_22 rfl (lv_at hl 1 rfl) ?_
      refine lv_iconst (v := (-1)) hx hb d_C_shape_23 (by decide) ?_
      refine lv_icmp_lt (tgt := 34) hx hb d_C_shape_24 (by decide) (fun c_3 => ?_) (fun c_3 => ?_)
      · exact thr_new (str := "no net") (ik := 59) (is := 61) (ic := 63) (E := xA) hx hb (hml.trans hl.1.symm) hG hown hZ hexc htr hlk q_428 q_429 q_59 zq_11 hat_xA (by decide +kernel) ⟨Nat.le_of_ble_eq_true rfl, Nat.le_of_ble_eq_true rfl, Nat.le_of_ble_eq_true rfl, Nat.le_of_ble_eq_true rfl⟩ (Nat.le_of_ble_eq_true rfl) d_C_shape_34 d_C_shape_37 d_C_shape_38 d_C_shape_40 d_C_shape_43
      · refine lv_iload_n hx hb d_C_shape_27 rfl (lv_at hl 1 rfl) ?_
        refine lv_sipush (v := 999) hx hb d_C_shape_28 (by decide) ?_
        refine lv_icmp_le (tgt := 44) hx hb d_C_shape_31 (by decide) (fun c_4 => ?_) (fun c_4 => ?_)
        · refine lv_iload_n hx hb d_C_shape_44 rfl (lv_at hl 3 rfl) ?_
          refine lv_if_lt (tgt := 53) hx hb d_C_shape_45 (by decide) (fun c_5 => ?_) (fun c_5 => ?_)
          · exact thr_new (str := "no kind of a shape") (ik := 59) (is := 64) (ic := 63) (E := xA) hx hb (hml.trans hl.1.symm) hG hown hZ hexc htr hlk q_428 q_429 q_59 zq_12 hat_xA (by decide +kernel) ⟨Nat.le_of_ble_eq_true rfl, Nat.le_of_ble_eq_true rfl, Nat.le_of_ble_eq_true rfl, Nat.le_of_ble_eq_true rfl⟩ (Nat.le_of_ble_eq_true rfl) d_C_shape_53 d_C_shape_56 d_C_shape_57 d_C_shape_59 d_C_shape_62
          · refine lv_iload_n hx hb d_C_shape_48 rfl (lv_at hl 3 rfl) ?_
            refine lv_iconst (v := 3) hx hb d_C_shape_49 (by decide) ?_
            refine lv_icmp_le (tgt := 63) hx hb d_C_shape_50 (by decide) (fun c_6 => ?_) (fun c_6 => ?_)
            · exact absurd hbad (by unfold jc_shape; simp only [if_neg c_1, if_pos c_2, if_neg c_3, if_pos c_4, if_neg c_5, if_pos c_6]; decide)
            · exact thr_new (str := "no kind of a shape") (ik := 59) (is := 64) (ic := 63) (E := xA) hx hb (hml.trans hl.1.symm) hG hown hZ hexc htr hlk q_428 q_429 q_59 zq_12 hat_xA (by decide +kernel) ⟨Nat.le_of_ble_eq_true rfl, Nat.le_of_ble_eq_true rfl, Nat.le_of_ble_eq_true rfl, Nat.le_of_ble_eq_true rfl⟩ (Nat.le_of_ble_eq_true rfl) d_C_shape_53 d_C_shape_56 d_C_shape_57 d_C_shape_59 d_C_shape_62
        · exact thr_new (str := "no net") (ik := 59) (is := 61) (ic := 63) (E := xA) hx hb (hml.trans hl.1.symm) hG hown hZ hexc htr hlk q_428 q_429 q_59 zq_11 hat_xA (by decide +kernel) ⟨Nat.le_of_ble_eq_true rfl, Nat.le_of_ble_eq_true rfl, Nat.le_of_ble_eq_true rfl, Nat.le_of_ble_eq_true rfl⟩ (Nat.le_of_ble_eq_true rfl) d_C_shape_34 d_C_shape_37 d_C_shape_38 d_C_shape_40 d_C_shape_43
    · exact absurd hbad (by unfold jc_shape; simp only [if_neg c_1, if_neg c_2]; decide)
def jc_rule (kd ca cb : Int32) (v : Int64) : Nat := (if kd < 0 then 1 else (if kd ≤ 6 then (if ca < (-1) then 1 else (if 7 < ca then 1 else (if cb < (-1) then 1 else (if cb ≤ 7 then (if kd = 5 then (if v < 0 then 1 else (if v ≤ 0 then 0 else 1)) else (if kd = 6 then (if v < 0 then 1 else (if v ≤ 0 then 0 else 1)) else (if v < 0 then 1 else (if v ≤ 100000 then 0 else 1)))) else 1)))) else 1))
set_option maxHeartbeats 4000000 in
set_option maxRecDepth 100000 in
theorem c_C_rule_t1 (l : Launch) (hfl : l.flags = pinnedFlags ++ [noTraceFlag]) (g : EG) (ws : va_W) (w : CW) (kd ca cb : Int32) (v : Int64) (hC : Cin0 g ws w) (hk : Cok0 w) (hbad : jc_rule kd ca cb v = 1) : Th l g ws y_C_rule prog_1_method_5_code 9 (some FieldType.int) 6 100 1 6 [.ref (cA w), .int kd, .int ca, .int cb, .long v] xA := by
  refine Th.start (by decide +kernel) hfl (Nat.le_of_ble_eq_true rfl) ?_
  intro p e s m below meth c ls hx hb hr hml hown hG hlk hP hK hZ hexc htr hl
  have hl : lv_has ls 9 [(0, .ref (cA w)), (1, .int kd), (2, .int ca), (3, .int cb), (4, .long v)] := hl
  have hown : s.vm.findClass "CleanChecks" = some m.cls := hown
  refine lv_iload_n hx hb d_C_rule_0 rfl (lv_at hl 1 rfl) ?_
  refine lv_if_lt (tgt := 10) hx hb d_C_rule_1 (by decide) (fun c_1 => ?_) (fun c_1 => ?_)
  · exact thr_new (str := "no kind of a rule") (ik := 59) (is := 103) (ic := 63) (E := xA) hx hb (hml.trans hl.1.symm) hG hown hZ hexc htr hlk q_428 q_429 q_59 zq_17 hat_xA (by decide +kernel) ⟨Nat.le_of_ble_eq_true rfl, Nat.le_of_ble_eq_true rfl, Nat.le_of_ble_eq_true rfl, Nat.le_of_ble_eq_true rfl⟩ (Nat.le_of_ble_eq_true rfl) d_C_rule_10 d_C_rule_13 d_C_rule_14 d_C_rule_16 d_C_rule_19
  · refine lv_iload_n hx hb d_C_rule_4 rfl (lv_at hl 1 rfl) ?_
    refine lv_bipush (v := 6) hx hb d_C_rule_5 (by decide) ?_
    refine lv_icmp_le (tgt := 20) hx hb d_C_rule_7 (by decide) (fun c_2 => ?_) (fun c_2 => ?_)
    · refine lv_iload_n hx hb d_C_rule_20 rfl (lv_at hl 2 rfl) ?_
      refine lv_iconst (v := (-1)) hx hb d_C_rule_21 (by decide) ?_
      refine lv_icmp_lt (tgt := 42) hx hb d_C_rule_22 (by decide) (fun c_3 => ?_) (fun c_3 => ?_)
      · exact thr_new (str := "no class") (ik := 59) (is := 105) (ic := 63) (E := xA) hx hb (hml.trans hl.1.symm) hG hown hZ hexc htr hlk q_428 q_429 q_59 zq_18 hat_xA (by decide +kernel) ⟨Nat.le_of_ble_eq_true rfl, Nat.le_of_ble_eq_true rfl, Nat.le_of_ble_eq_true rfl, Nat.le_of_ble_eq_true rfl⟩ (Nat.le_of_ble_eq_true rfl) d_C_rule_42 d_C_rule_45 d_C_rule_46 d_C_rule_48 d_C_rule_51
      · refine lv_iload_n hx hb d_C_rule_25 rfl (lv_at hl 2 rfl) ?_
        refine lv_bipush (v := 7) hx hb d_C_rule_26 (by decide) ?_
        refine lv_icmp_gt (tgt := 42) hx hb d_C_rule_28 (by decide) (fun c_4 => ?_) (fun c_4 => ?_)
        · exact thr_new (str := "no class") (ik := 59) (is := 105) (ic := 63) (E := xA) hx hb (hml.trans hl.1.symm) hG hown hZ hexc htr hlk q_428 q_429 q_59 zq_18 hat_xA (by decide +kernel) ⟨Nat.le_of_ble_eq_true rfl, Nat.le_of_ble_eq_true rfl, Nat.le_of_ble_eq_true rfl, Nat.le_of_ble_eq_true rfl⟩ (Nat.le_of_ble_eq_true rfl) d_C_rule_42 d_C_rule_45 d_C_rule_46 d_C_rule_48 d_C_rule_51
        · refine lv_iload_n hx hb d_C_rule_31 rfl (lv_at hl 3 rfl) ?_
          refine lv_iconst (v := (-1)) hx hb d_C_rule_32 (by decide) ?_
          refine lv_icmp_lt (tgt := 42) hx hb d_C_rule_33 (by decide) (fun c_5 => ?_) (fun c_5 => ?_)
          · exact thr_new (str := "no class") (ik := 59) (is := 105) (ic := 63) (E := xA) hx hb (hml.trans hl.1.symm) hG hown hZ hexc htr hlk q_428 q_429 q_59 zq_18 hat_xA (by decide +kernel) ⟨Nat.le_of_ble_eq_true rfl, Nat.le_of_ble_eq_true rfl, Nat.le_of_ble_eq_true rfl, Nat.le_of_ble_eq_true rfl⟩ (Nat.le_of_ble_eq_true rfl) d_C_rule_42 d_C_rule_45 d_C_rule_46 d_C_rule_48 d_C_rule_51
          · refine lv_iload_n hx hb d_C_rule_36 rfl (lv_at hl 3 rfl) ?_
            refine lv_bipush (v := 7) hx hb d_C_rule_37 (by decide) ?_
            refine lv_icmp_le (tgt := 52) hx hb d_C_rule_39 (by decide) (fun c_6 => ?_) (fun c_6 => ?_)
            · refine lv_iload_n hx hb d_C_rule_52 rfl (lv_at hl 1 rfl) ?_
              refine lv_iconst (v := 5) hx hb d_C_rule_53 (by decide) ?_
              refine lv_icmp_eq (tgt := 63) hx hb d_C_rule_54 (by decide) (fun c_7 => ?_) (fun c_7 => ?_)
              · refine lv_lconst (v := 0) hx hb d_C_rule_63 (by decide) ?_
                refine lv_goto (tgt := 70) hx hb d_C_rule_64 (by decide) ?_
                refine lv_lstore (lv' := [(6, .long 0), (0, .ref (cA w)), (1, .int kd), (2, .int ca), (3, .int cb), (4, .long v)]) hx hb d_C_rule_70 hl (by decide) rfl (fun ls hl => ?_)
                refine lv_lload hx hb d_C_rule_72 (lv_at hl 5 rfl) ?_
                refine lv_lconst (v := 0) hx hb d_C_rule_74 (by decide) ?_
                refine lz_if_lt (tgt := 87) hx hb d_C_rule_75 d_C_rule_76 (by decide) (fun c_8 => ?_) (fun c_8 => ?_)
                · exact thr_new (str := "no value of such a rule") (ik := 59) (is := 107) (ic := 63) (E := xA) hx hb (hml.trans hl.1.symm) hG hown hZ hexc htr hlk q_428 q_429 q_59 zq_19 hat_xA (by decide +kernel) ⟨Nat.le_of_ble_eq_true rfl, Nat.le_of_ble_eq_true rfl, Nat.le_of_ble_eq_true rfl, Nat.le_of_ble_eq_true rfl⟩ (Nat.le_of_ble_eq_true rfl) d_C_rule_87 d_C_rule_90 d_C_rule_91 d_C_rule_93 d_C_rule_96
                · refine lv_lload hx hb d_C_rule_79 (lv_at hl 5 rfl) ?_
                  refine lv_lload hx hb d_C_rule_81 (lv_at hl 0 rfl) ?_
                  refine lz_if_le (tgt := 97) hx hb d_C_rule_83 d_C_rule_84 (by decide) (fun c_9 => ?_) (fun c_9 => ?_)
                  · exact absurd hbad (by unfold jc_rule; simp only [if_neg c_1, if_pos c_2, if_neg c_3, if_neg c_4, if_neg c_5, if_pos c_6, if_pos c_7, if_neg c_8, if_pos c_9]; decide)
                  · exact thr_new (str := "no value of such a rule") (ik := 59) (is := 107) (ic := 63) (E := xA) hx hb (hml.trans hl.1.symm) hG hown hZ hexc htr hlk q_428 q_429 q_59 zq_19 hat_xA (by decide +kernel) ⟨Nat.le_of_ble_eq_true rfl, Nat.le_of_ble_eq_true rfl, Nat.le_of_ble_eq_true rfl, Nat.le_of_ble_eq_true rfl⟩ (Nat.le_of_ble_eq_true rfl) d_C_rule_87 d_C_rule_90 d_C_rule_91 d_C_rule_93 d_C_rule_96
              · refine lv_iload_n hx hb d_C_rule_57 rfl (lv_at hl 1 rfl) ?_
                refine lv_bipush (v := 6) hx hb d_C_rule_58 (by decide) ?_
                refine lv_icmp_ne (tgt := 67) hx hb d_C_rule_60 (by decide) (fun c_10 => ?_) (fun c_10 => ?_)
                · refine lv_ldc2 (v := 100000) hx hb hown (hG _ q_590) d_C_rule_67 ?_
                  refine lv_lstore (lv' := [(6, .long 100000), (0, .ref (cA w)), (1, .int kd), (2, .int ca), (3, .int cb), (4, .long v)]) hx hb d_C_rule_70 hl (by decide) rfl (fun ls hl => ?_)
                  refine lv_lload hx hb d_C_rule_72 (lv_at hl 5 rfl) ?_
                  refine lv_lconst (v := 0) hx hb d_C_rule_74 (by decide) ?_
                  refine lz_if_lt (tgt := 87) hx hb d_C_rule_75 d_C_rule_76 (by decide) (fun c_11 => ?_) (fun c_11 => ?_)
                  · exact thr_new (str := "no value of such a rule") (ik := 59) (is := 107) (ic := 63) (E := xA) hx hb (hml.trans hl.1.symm) hG hown hZ hexc htr hlk q_428 q_429 q_59 zq_19 hat_xA (by decide +kernel) ⟨Nat.le_of_ble_eq_true rfl, Nat.le_of_ble_eq_true rfl, Nat.le_of_ble_eq_true rfl, Nat.le_of_ble_eq_true rfl⟩ (Nat.le_of_ble_eq_true rfl) d_C_rule_87 d_C_rule_90 d_C_rule_91 d_C_rule_93 d_C_rule_96
                  · refine lv_lload hx hb d_C_rule_79 (lv_at hl 5 rfl) ?_
                    refine lv_lload hx hb d_C_rule_81 (lv_at hl 0 rfl) ?_
                    refine lz_if_le (tgt := 97) hx hb d_C_rule_83 d_C_rule_84 (by decide) (fun c_12 => ?_) (fun c_12 => ?_)
                    · exact absurd hbad (by unfold jc_rule; simp only [if_neg c_1, if_pos c_2, if_neg c_3, if_neg c_4, if_neg c_5, if_pos c_6, if_neg c_7, if_neg c_10, if_neg c_11, if_pos c_12]; decide)
                    · exact thr_new (str := "no value of such a rule") (ik := 59) (is := 107) (ic := 63) (E := xA) hx hb (hml.trans hl.1.symm) hG hown hZ hexc htr hlk q_428 q_429 q_59 zq_19 hat_xA (by decide +kernel) ⟨Nat.le_of_ble_eq_true rfl, Nat.le_of_ble_eq_true rfl, Nat.le_of_ble_eq_true rfl, Nat.le_of_ble_eq_true rfl⟩ (Nat.le_of_ble_eq_true rfl) d_C_rule_87 d_C_rule_90 d_C_rule_91 d_C_rule_93 d_C_rule_96
                · refine lv_lconst (v := 0) hx hb d_C_rule_63 (by decide) ?_
                  refine lv_goto (tgt := 70) hx hb d_C_rule_64 (by decide) ?_
                  refine lv_lstore (lv' := [(6, .long 0), (0, .ref (cA w)), (1, .int kd), (2, .int ca), (3, .int cb), (4, .long v)]) hx hb d_C_rule_70 hl (by decide) rfl (fun ls hl => ?_)
                  refine lv_lload hx hb d_C_rule_72 (lv_at hl 5 rfl) ?_
                  refine lv_lconst (v := 0) hx hb d_C_rule_74 (by decide) ?_
                  refine lz_if_lt (tgt := 87) hx hb d_C_rule_75 d_C_rule_76 (by decide) (fun c_13 => ?_) (fun c_13 => ?_)
                  · exact thr_new (str := "no value of such a rule") (ik := 59) (is := 107) (ic := 63) (E := xA) hx hb (hml.trans hl.1.symm) hG hown hZ hexc htr hlk q_428 q_429 q_59 zq_19 hat_xA (by decide +kernel) ⟨Nat.le_of_ble_eq_true rfl, Nat.le_of_ble_eq_true rfl, Nat.le_of_ble_eq_true rfl, Nat.le_of_ble_eq_true rfl⟩ (Nat.le_of_ble_eq_true rfl) d_C_rule_87 d_C_rule_90 d_C_rule_91 d_C_rule_93 d_C_rule_96
                  · refine lv_lload hx hb d_C_rule_79 (lv_at hl 5 rfl) ?_
                    refine lv_lload hx hb d_C_rule_81 (lv_at hl 0 rfl) ?_
                    refine lz_if_le (tgt := 97) hx hb d_C_rule_83 d_C_rule_84 (by decide) (fun c_14 => ?_) (fun c_14 => ?_)
                    · exact absurd hbad (by unfold jc_rule; simp only [if_neg c_1, if_pos c_2, if_neg c_3, if_neg c_4, if_neg c_5, if_pos c_6, if_neg c_7, if_pos c_10, if_neg c_13, if_pos c_14]; decide)
                    · exact thr_new (str := "no value of such a rule") (ik := 59) (is := 107) (ic := 63) (E := xA) hx hb (hml.trans hl.1.symm) hG hown hZ hexc htr hlk q_428 q_429 q_59 zq_19 hat_xA (by decide +kernel) ⟨Nat.le_of_ble_eq_true rfl, Nat.le_of_ble_eq_true rfl, Nat.le_of_ble_eq_true rfl, Nat.le_of_ble_eq_true rfl⟩ (Nat.le_of_ble_eq_true rfl) d_C_rule_87 d_C_rule_90 d_C_rule_91 d_C_rule_93 d_C_rule_96
            · exact thr_new (str := "no class") (ik := 59) (is := 105) (ic := 63) (E := xA) hx hb (hml.trans hl.1.symm) hG hown hZ hexc htr hlk q_428 q_429 q_59 zq_18 hat_xA (by decide +kernel) ⟨Nat.le_of_ble_eq_true rfl, Nat.le_of_ble_eq_true rfl, Nat.le_of_ble_eq_true rfl, Nat.le_of_ble_eq_true rfl⟩ (Nat.le_of_ble_eq_true rfl) d_C_rule_42 d_C_rule_45 d_C_rule_46 d_C_rule_48 d_C_rule_51
    · exact thr_new (str := "no kind of a rule") (ik := 59) (is := 103) (ic := 63) (E := xA) hx hb (hml.trans hl.1.symm) hG hown hZ hexc htr hlk q_428 q_429 q_59 zq_17 hat_xA (by decide +kernel) ⟨Nat.le_of_ble_eq_true rfl, Nat.le_of_ble_eq_true rfl, Nat.le_of_ble_eq_true rfl, Nat.le_of_ble_eq_true rfl⟩ (Nat.le_of_ble_eq_true rfl) d_C_rule_10 d_C_rule_13 d_C_rule_14 d_C_rule_16 d_C_rule_19
def jc_near (x0 y0 x1 y1 : Int64) : Nat := (if x0 ≤ x1 then (if y0 ≤ y1 then 0 else 1) else 1)
set_option maxHeartbeats 4000000 in
set_option maxRecDepth 100000 in
theorem c_C_near_t1 (l : Launch) (hfl : l.flags = pinnedFlags ++ [noTraceFlag]) (g : EG) (ws : va_W) (w : CW) (x0 y0 x1 y1 : Int64) (hC : Cin0 g ws w) (hk : Cok0 w) (hbad : jc_near x0 y0 x1 y1 = 1) : Th l g ws y_C_near prog_1_method_11_code 15 (some FieldType.int) 6 100 1 6 [.ref (cA w), .long x0, .long y0, .long x1, .long y1] xA := by
  refine Th.start (by decide +kernel) hfl (Nat.le_of_ble_eq_true rfl) ?_
  intro p e s m below meth c ls hx hb hr hml hown hG hlk hP hK hZ hexc htr hl
  have hl : lv_has ls 15 [(0, .ref (cA w)), (1, .long x0), (3, .long y0), (5, .long x1), (7, .long y1)] := hl
  have hown : s.vm.findClass "CleanChecks" = some m.cls := hown
  refine lv_lload_n hx hb d_C_near_0 rfl (lv_at hl 1 rfl) ?_
  refine lv_lload hx hb d_C_near_1 (lv_at hl 3 rfl) ?_
  refine lz_if_gt (tgt := 14) hx hb d_C_near_3 d_C_near_4 (by decide) (fun c_1 => ?_) (fun c_1 => ?_)
  · exact thr_new (str := "the box is turned") (ik := 59) (is := 173) (ic := 63) (E := xA) hx hb (hml.trans hl.1.symm) hG hown hZ hexc htr hlk q_428 q_429 q_59 zq_25 hat_xA (by decide +kernel) ⟨Nat.le_of_ble_eq_true rfl, Nat.le_of_ble_eq_true rfl, Nat.le_of_ble_eq_true rfl, Nat.le_of_ble_eq_true rfl⟩ (Nat.le_of_ble_eq_true rfl) d_C_near_14 d_C_near_17 d_C_near_18 d_C_near_20 d_C_near_23
  · refine lv_lload_n hx hb d_C_near_7 rfl (lv_at hl 2 rfl) ?_
    refine lv_lload hx hb d_C_near_8 (lv_at hl 4 rfl) ?_
    refine lz_if_le (tgt := 24) hx hb d_C_near_10 d_C_near_11 (by decide) (fun c_2 => ?_) (fun c_2 => ?_)
    · exact absurd hbad (by unfold jc_near; simp only [if_pos c_1, if_pos c_2]; decide)
    · exact thr_new (str := "the box is turned") (ik := 59) (is := 173) (ic := 63) (E := xA) hx hb (hml.trans hl.1.symm) hG hown hZ hexc htr hlk q_428 q_429 q_59 zq_25 hat_xA (by decide +kernel) ⟨Nat.le_of_ble_eq_true rfl, Nat.le_of_ble_eq_true rfl, Nat.le_of_ble_eq_true rfl, Nat.le_of_ble_eq_true rfl⟩ (Nat.le_of_ble_eq_true rfl) d_C_near_14 d_C_near_17 d_C_near_18 d_C_near_20 d_C_near_23
def jc_run (wk : Int32) : Nat := (if wk < 1 then 1 else (if wk ≤ 8 then 0 else 1))
set_option maxHeartbeats 4000000 in
set_option maxRecDepth 100000 in
theorem c_C_run_t1 (l : Launch) (hfl : l.flags = pinnedFlags ++ [noTraceFlag]) (g : EG) (ws : va_W) (w : CW) (wk : Int32) (sd : Int64) (hC : Cin0 g ws w) (hk : Cok0 w) (hbad : jc_run wk = 1) : Th l g ws y_C_run prog_1_method_7_code 7 (some FieldType.int) 6 100 1 6 [.ref (cA w), .int wk, .long sd] xA := by
  refine Th.start (by decide +kernel) hfl (Nat.le_of_ble_eq_true rfl) ?_
  intro p e s m below meth c ls hx hb hr hml hown hG hlk hP hK hZ hexc htr hl
  have hl : lv_has ls 7 [(0, .ref (cA w)), (1, .int wk), (2, .long sd)] := hl
  have hown : s.vm.findClass "CleanChecks" = some m.cls := hown
  refine lv_iload_n hx hb d_C_run_0 rfl (lv_at hl 1 rfl) ?_
  refine lv_iconst (v := 1) hx hb d_C_run_1 (by decide) ?_
  refine lv_icmp_lt (tgt := 11) hx hb d_C_run_2 (by decide) (fun c_1 => ?_) (fun c_1 => ?_)
  · exact thr_new (str := "no such number of workers") (ik := 59) (is := 122) (ic := 63) (E := xA) hx hb (hml.trans hl.1.symm) hG hown hZ hexc htr hlk q_428 q_429 q_59 zq_21 hat_xA (by decide +kernel) ⟨Nat.le_of_ble_eq_true rfl, Nat.le_of_ble_eq_true rfl, Nat.le_of_ble_eq_true rfl, Nat.le_of_ble_eq_true rfl⟩ (Nat.le_of_ble_eq_true rfl) d_C_run_11 d_C_run_14 d_C_run_15 d_C_run_17 d_C_run_20
  · refine lv_iload_n hx hb d_C_run_5 rfl (lv_at hl 1 rfl) ?_
    refine lv_bipush (v := 8) hx hb d_C_run_6 (by decide) ?_
    refine lv_icmp_le (tgt := 21) hx hb d_C_run_8 (by decide) (fun c_2 => ?_) (fun c_2 => ?_)
    · exact absurd hbad (by unfold jc_run; simp only [if_neg c_1, if_pos c_2]; decide)
    · exact thr_new (str := "no such number of workers") (ik := 59) (is := 122) (ic := 63) (E := xA) hx hb (hml.trans hl.1.symm) hG hown hZ hexc htr hlk q_428 q_429 q_59 zq_21 hat_xA (by decide +kernel) ⟨Nat.le_of_ble_eq_true rfl, Nat.le_of_ble_eq_true rfl, Nat.le_of_ble_eq_true rfl, Nat.le_of_ble_eq_true rfl⟩ (Nat.le_of_ble_eq_true rfl) d_C_run_11 d_C_run_14 d_C_run_15 d_C_run_17 d_C_run_20
def jc_strips (n : Int32) : Nat := (if n < 1 then 1 else (if n ≤ 64 then 0 else 1))
set_option maxHeartbeats 4000000 in
set_option maxRecDepth 100000 in
theorem c_C_strips_t1 (l : Launch) (hfl : l.flags = pinnedFlags ++ [noTraceFlag]) (g : EG) (ws : va_W) (w : CW) (n : Int32) (hC : Cin0 g ws w) (hk : Cok0 w) (hbad : jc_strips n = 1) : Th l g ws y_C_strips prog_1_method_16_code 3 (some FieldType.int) 6 100 1 6 [.ref (cA w), .int n] xA := by
  refine Th.start (by decide +kernel) hfl (Nat.le_of_ble_eq_true rfl) ?_
  intro p e s m below meth c ls hx hb hr hml hown hG hlk hP hK hZ hexc htr hl
  have hl : lv_has ls 3 [(0, .ref (cA w)), (1, .int n)] := hl
  have hown : s.vm.findClass "CleanChecks" = some m.cls := hown
  refine lv_iload_n hx hb d_C_strips_0 rfl (lv_at hl 1 rfl) ?_
  refine lv_iconst (v := 1) hx hb d_C_strips_1 (by decide) ?_
  refine lv_icmp_lt (tgt := 11) hx hb d_C_strips_2 (by decide) (fun c_1 => ?_) (fun c_1 => ?_)
  · exact thr_new (str := "no such number of strips") (ik := 59) (is := 197) (ic := 63) (E := xA) hx hb (hml.trans hl.1.symm) hG hown hZ hexc htr hlk q_428 q_429 q_59 zq_26 hat_xA (by decide +kernel) ⟨Nat.le_of_ble_eq_true rfl, Nat.le_of_ble_eq_true rfl, Nat.le_of_ble_eq_true rfl, Nat.le_of_ble_eq_true rfl⟩ (Nat.le_of_ble_eq_true rfl) d_C_strips_11 d_C_strips_14 d_C_strips_15 d_C_strips_17 d_C_strips_20
  · refine lv_iload_n hx hb d_C_strips_5 rfl (lv_at hl 1 rfl) ?_
    refine lv_bipush (v := 64) hx hb d_C_strips_6 (by decide) ?_
    refine lv_icmp_le (tgt := 21) hx hb d_C_strips_8 (by decide) (fun c_2 => ?_) (fun c_2 => ?_)
    · exact absurd hbad (by unfold jc_strips; simp only [if_neg c_1, if_pos c_2]; decide)
    · exact thr_new (str := "no such number of strips") (ik := 59) (is := 197) (ic := 63) (E := xA) hx hb (hml.trans hl.1.symm) hG hown hZ hexc htr hlk q_428 q_429 q_59 zq_26 hat_xA (by decide +kernel) ⟨Nat.le_of_ble_eq_true rfl, Nat.le_of_ble_eq_true rfl, Nat.le_of_ble_eq_true rfl, Nat.le_of_ble_eq_true rfl⟩ (Nat.le_of_ble_eq_true rfl) d_C_strips_11 d_C_strips_14 d_C_strips_15 d_C_strips_17 d_C_strips_20
def jc_anyShape (w : CW) (n : Int32) : Nat := (if n < 0 then 1 else (if n < nI (cNS w) then 0 else 1))
set_option maxHeartbeats 4000000 in
set_option maxRecDepth 100000 in
theorem c_C_anyShape_t1 (l : Launch) (hfl : l.flags = pinnedFlags ++ [noTraceFlag]) (g : EG) (ws : va_W) (w : CW) (n : Int32) (hC : Cin0 g ws w) (hk : Cok0 w) (hbad : jc_anyShape w n = 1) : Th l g ws y_C_anyShape prog_1_method_17_code 2 (some (FieldType.object "CleanChecks$Shape")) 6 100 1 6 [.ref (cA w), .int n] xI := by
  refine Th.start (by decide +kernel) hfl (Nat.le_of_ble_eq_true rfl) ?_
  intro p e s m below meth c ls hx hb hr hml hown hG hlk hP hK hZ hexc htr hl
  have hl : lv_has ls 2 [(0, .ref (cA w)), (1, .int n)] := hl
  have hown : s.vm.findClass "CleanChecks" = some m.cls := hown
  refine lv_iload_n hx hb d_C_anyShape_0 rfl (lv_at hl 1 rfl) ?_
  refine lv_if_lt (tgt := 15) hx hb d_C_anyShape_1 (by decide) (fun c_1 => ?_) (fun c_1 => ?_)
  · exact thr_new (str := "no such shape") (ik := 52) (is := 199) (ic := 56) (E := xI) hx hb (hml.trans hl.1.symm) hG hown hZ hexc htr hlk q_360 q_361 q_58 zq_13 hat_xI (by decide +kernel) ⟨Nat.le_of_ble_eq_true rfl, Nat.le_of_ble_eq_true rfl, Nat.le_of_ble_eq_true rfl, Nat.le_of_ble_eq_true rfl⟩ (Nat.le_of_ble_eq_true rfl) d_C_anyShape_15 d_C_anyShape_18 d_C_anyShape_19 d_C_anyShape_21 d_C_anyShape_24
  · refine lv_iload_n hx hb d_C_anyShape_4 rfl (lv_at hl 1 rfl) ?_
    refine lv_aload_n hx hb d_C_anyShape_5 rfl (lv_at hl 0 rfl) ?_
    refine rget hx hb hG hown hK hP hC.1 rfl in_C 1 (by decide) q_126 rfl rfl d_C_anyShape_6 ?_
    refine rdVi (As := []) (rest := [.int n]) hx hb (hml.trans hl.1.symm) hG hown hK hP hC.2.1.1 rfl hP (c_A_size l g ws (cSL w) hC.2.1) q_166 q_52 q_163 q_164 q_165 hd_A_size ⟨Nat.le_of_ble_eq_true rfl, Nat.le_of_ble_eq_true rfl⟩ ⟨Nat.le_of_ble_eq_true rfl, Nat.le_of_ble_eq_true rfl⟩ rfl rfl (Nat.le_of_ble_eq_true rfl) d_C_anyShape_9 (fun r r_2 => ?_)
    subst r_2
    refine lv_icmp_lt (tgt := 25) hx hb d_C_anyShape_12 (by decide) (fun c_3 => ?_) (fun c_3 => ?_)
    · exact absurd hbad (by unfold jc_anyShape; simp only [if_neg c_1, if_pos c_3]; decide)
    · exact thr_new (str := "no such shape") (ik := 52) (is := 199) (ic := 56) (E := xI) hx hb (hml.trans hl.1.symm) hG hown hZ hexc htr hlk q_360 q_361 q_58 zq_13 hat_xI (by decide +kernel) ⟨Nat.le_of_ble_eq_true rfl, Nat.le_of_ble_eq_true rfl, Nat.le_of_ble_eq_true rfl, Nat.le_of_ble_eq_true rfl⟩ (Nat.le_of_ble_eq_true rfl) d_C_anyShape_15 d_C_anyShape_18 d_C_anyShape_19 d_C_anyShape_21 d_C_anyShape_24
def jc_requireFinding (w : CW) (n : Int32) : Nat := (if n < 0 then 1 else (if n < nI (fN (cLF w)) then 0 else 1))
set_option maxHeartbeats 4000000 in
set_option maxRecDepth 100000 in
theorem c_C_requireFinding_t1 (l : Launch) (hfl : l.flags = pinnedFlags ++ [noTraceFlag]) (g : EG) (ws : va_W) (w : CW) (n : Int32) (hC : Cin g ws w) (hk : Cok w) (hbad : jc_requireFinding w n = 1) : Th l g ws y_C_requireFinding prog_1_method_19_code 2 none 6 100 1 6 [.ref (cA w), .int n] xI := by
  refine Th.start (by decide +kernel) hfl (Nat.le_of_ble_eq_true rfl) ?_
  intro p e s m below meth c ls hx hb hr hml hown hG hlk hP hK hZ hexc htr hl
  have hl : lv_has ls 2 [(0, .ref (cA w)), (1, .int n)] := hl
  have hown : s.vm.findClass "CleanChecks" = some m.cls := hown
  refine lv_iload_n hx hb d_C_requireFinding_0 rfl (lv_at hl 1 rfl) ?_
  refine lv_if_lt (tgt := 15) hx hb d_C_requireFinding_1 (by decide) (fun c_1 => ?_) (fun c_1 => ?_)
  · exact thr_new (str := "no such violation") (ik := 52) (is := 214) (ic := 56) (E := xI) hx hb (hml.trans hl.1.symm) hG hown hZ hexc htr hlk q_360 q_361 q_58 zq_22 hat_xI (by decide +kernel) ⟨Nat.le_of_ble_eq_true rfl, Nat.le_of_ble_eq_true rfl, Nat.le_of_ble_eq_true rfl, Nat.le_of_ble_eq_true rfl⟩ (Nat.le_of_ble_eq_true rfl) d_C_requireFinding_15 d_C_requireFinding_18 d_C_requireFinding_19 d_C_requireFinding_21 d_C_requireFinding_24
  · refine lv_iload_n hx hb d_C_requireFinding_4 rfl (lv_at hl 1 rfl) ?_
    refine lv_aload_n hx hb d_C_requireFinding_5 rfl (lv_at hl 0 rfl) ?_
    refine rget hx hb hG hown hK hP hC.1.1 rfl in_C 3 (by decide) q_128 rfl rfl d_C_requireFinding_6 ?_
    refine rget hx hb hG hown hK hP hC.2.1.1 rfl in_F 1 (by decide) q_118 rfl rfl d_C_requireFinding_9 ?_
    refine lv_icmp_lt (tgt := 25) hx hb d_C_requireFinding_12 (by decide) (fun c_2 => ?_) (fun c_2 => ?_)
    · exact absurd hbad (by unfold jc_requireFinding; simp only [if_neg c_1, if_pos c_2]; decide)
    · exact thr_new (str := "no such violation") (ik := 52) (is := 214) (ic := 56) (E := xI) hx hb (hml.trans hl.1.symm) hG hown hZ hexc htr hlk q_360 q_361 q_58 zq_22 hat_xI (by decide +kernel) ⟨Nat.le_of_ble_eq_true rfl, Nat.le_of_ble_eq_true rfl, Nat.le_of_ble_eq_true rfl, Nat.le_of_ble_eq_true rfl⟩ (Nat.le_of_ble_eq_true rfl) d_C_requireFinding_15 d_C_requireFinding_18 d_C_requireFinding_19 d_C_requireFinding_21 d_C_requireFinding_24
set_option maxHeartbeats 4000000 in
set_option maxRecDepth 100000 in
theorem c_C_openShape_b (l : Launch) (hfl : l.flags = pinnedFlags ++ [noTraceFlag]) (g : EG) (ws : va_W) (w : CW) (n : Int32) (hC : Cin0 g ws w) (hk : Cok0 w) (hbad : jc_anyShape w n = 1) : Th l g ws y_C_openShape prog_1_method_18_code 3 (some (FieldType.object "CleanChecks$Shape")) 7 121 1 6 [.ref (cA w), .int n] xI := by
  refine Th.start (by decide +kernel) hfl (Nat.le_of_ble_eq_true rfl) ?_
  intro p e s m below meth c ls hx hb hr hml hown hG hlk hP hK hZ hexc htr hl
  have hl : lv_has ls 3 [(0, .ref (cA w)), (1, .int n)] := hl
  have hown : s.vm.findClass "CleanChecks" = some m.cls := hown
  refine lv_aload_n hx hb d_C_openShape_0 rfl (lv_at hl 0 rfl) ?_
  refine lv_iload_n hx hb d_C_openShape_1 rfl (lv_at hl 1 rfl) ?_
  exact thr_callV (As := [.int n]) (rest := []) hx hb (hml.trans hl.1.symm) hG hown hK hC.1 rfl hP hZ hexc hlk (c_C_anyShape_t1 l hfl g ws w n hC hk hbad) q_555 q_48 q_552 q_554 q_24 hd_C_anyShape ⟨Nat.le_of_ble_eq_true rfl, Nat.le_of_ble_eq_true rfl⟩ ⟨Nat.le_of_ble_eq_true rfl, Nat.le_of_ble_eq_true rfl⟩ rfl rfl (Nat.le_of_ble_eq_true rfl) d_C_openShape_2
set_option maxHeartbeats 4000000 in
set_option maxRecDepth 100000 in
theorem c_C_corner_b (l : Launch) (hfl : l.flags = pinnedFlags ++ [noTraceFlag]) (g : EG) (ws : va_W) (w : CW) (n : Int32) (px : Int64) (py : Int64) (hC : Cin0 g ws w) (hk : Cok0 w) (hbad : jc_anyShape w n = 1) : Th l g ws y_C_corner prog_1_method_3_code 7 (some FieldType.boolean) 8 143 1 6 [.ref (cA w), .int n, .long px, .long py] xI := by
  refine Th.start (by decide +kernel) hfl (Nat.le_of_ble_eq_true rfl) ?_
  intro p e s m below meth c ls hx hb hr hml hown hG hlk hP hK hZ hexc htr hl
  have hl : lv_has ls 7 [(0, .ref (cA w)), (1, .int n), (2, .long px), (4, .long py)] := hl
  have hown : s.vm.findClass "CleanChecks" = some m.cls := hown
  refine lv_aload_n hx hb d_C_corner_0 rfl (lv_at hl 0 rfl) ?_
  refine lv_iload_n hx hb d_C_corner_1 rfl (lv_at hl 1 rfl) ?_
  exact thr_callV (As := [.int n]) (rest := []) hx hb (hml.trans hl.1.symm) hG hown hK hC.1 rfl hP hZ hexc hlk (c_C_openShape_b l hfl g ws w n hC hk hbad) q_551 q_48 q_548 q_550 q_23 hd_C_openShape ⟨Nat.le_of_ble_eq_true rfl, Nat.le_of_ble_eq_true rfl⟩ ⟨Nat.le_of_ble_eq_true rfl, Nat.le_of_ble_eq_true rfl⟩ rfl rfl (Nat.le_of_ble_eq_true rfl) d_C_corner_2
set_option maxHeartbeats 4000000 in
set_option maxRecDepth 100000 in
theorem c_C_closeShape_b (l : Launch) (hfl : l.flags = pinnedFlags ++ [noTraceFlag]) (g : EG) (ws : va_W) (w : CW) (n : Int32) (rr : Int64) (hC : Cin0 g ws w) (hk : Cok0 w) (hbad : jc_anyShape w n = 1) : Th l g ws y_C_closeShape prog_1_method_4_code 5 (some FieldType.boolean) 8 143 1 6 [.ref (cA w), .int n, .long rr] xI := by
  refine Th.start (by decide +kernel) hfl (Nat.le_of_ble_eq_true rfl) ?_
  intro p e s m below meth c ls hx hb hr hml hown hG hlk hP hK hZ hexc htr hl
  have hl : lv_has ls 5 [(0, .ref (cA w)), (1, .int n), (2, .long rr)] := hl
  have hown : s.vm.findClass "CleanChecks" = some m.cls := hown
  refine lv_aload_n hx hb d_C_closeShape_0 rfl (lv_at hl 0 rfl) ?_
  refine lv_iload_n hx hb d_C_closeShape_1 rfl (lv_at hl 1 rfl) ?_
  exact thr_callV (As := [.int n]) (rest := []) hx hb (hml.trans hl.1.symm) hG hown hK hC.1 rfl hP hZ hexc hlk (c_C_openShape_b l hfl g ws w n hC hk hbad) q_551 q_48 q_548 q_550 q_23 hd_C_openShape ⟨Nat.le_of_ble_eq_true rfl, Nat.le_of_ble_eq_true rfl⟩ ⟨Nat.le_of_ble_eq_true rfl, Nat.le_of_ble_eq_true rfl⟩ rfl rfl (Nat.le_of_ble_eq_true rfl) d_C_closeShape_2
set_option maxHeartbeats 4000000 in
set_option maxRecDepth 100000 in
theorem c_C_cls_b (l : Launch) (hfl : l.flags = pinnedFlags ++ [noTraceFlag]) (g : EG) (ws : va_W) (w : CW) (n : Int32) (c9 : Int32) (hC : Cin0 g ws w) (hk : Cok0 w) (hbad : jc_anyShape w n = 1) : Th l g ws y_C_cls prog_1_method_6_code 5 (some FieldType.boolean) 7 121 1 6 [.ref (cA w), .int n, .int c9] xI := by
  refine Th.start (by decide +kernel) hfl (Nat.le_of_ble_eq_true rfl) ?_
  intro p e s m below meth c ls hx hb hr hml hown hG hlk hP hK hZ hexc htr hl
  have hl : lv_has ls 5 [(0, .ref (cA w)), (1, .int n), (2, .int c9)] := hl
  have hown : s.vm.findClass "CleanChecks" = some m.cls := hown
  refine lv_aload_n hx hb d_C_cls_0 rfl (lv_at hl 0 rfl) ?_
  refine lv_iload_n hx hb d_C_cls_1 rfl (lv_at hl 1 rfl) ?_
  exact thr_callV (As := [.int n]) (rest := []) hx hb (hml.trans hl.1.symm) hG hown hK hC.1 rfl hP hZ hexc hlk (c_C_anyShape_t1 l hfl g ws w n hC hk hbad) q_555 q_48 q_552 q_554 q_24 hd_C_anyShape ⟨Nat.le_of_ble_eq_true rfl, Nat.le_of_ble_eq_true rfl⟩ ⟨Nat.le_of_ble_eq_true rfl, Nat.le_of_ble_eq_true rfl⟩ rfl rfl (Nat.le_of_ble_eq_true rfl) d_C_cls_2
set_option maxHeartbeats 4000000 in
set_option maxRecDepth 100000 in
theorem c_C_move_b (l : Launch) (hfl : l.flags = pinnedFlags ++ [noTraceFlag]) (g : EG) (ws : va_W) (w : CW) (n : Int32) (dx : Int64) (dy : Int64) (hC : Cin0 g ws w) (hk : Cok0 w) (hbad : jc_anyShape w n = 1) : Th l g ws y_C_move prog_1_method_12_code 8 (some FieldType.boolean) 7 121 1 6 [.ref (cA w), .int n, .long dx, .long dy] xI := by
  refine Th.start (by decide +kernel) hfl (Nat.le_of_ble_eq_true rfl) ?_
  intro p e s m below meth c ls hx hb hr hml hown hG hlk hP hK hZ hexc htr hl
  have hl : lv_has ls 8 [(0, .ref (cA w)), (1, .int n), (2, .long dx), (4, .long dy)] := hl
  have hown : s.vm.findClass "CleanChecks" = some m.cls := hown
  refine lv_aload_n hx hb d_C_move_0 rfl (lv_at hl 0 rfl) ?_
  refine lv_iload_n hx hb d_C_move_1 rfl (lv_at hl 1 rfl) ?_
  exact thr_callV (As := [.int n]) (rest := []) hx hb (hml.trans hl.1.symm) hG hown hK hC.1 rfl hP hZ hexc hlk (c_C_anyShape_t1 l hfl g ws w n hC hk hbad) q_555 q_48 q_552 q_554 q_24 hd_C_anyShape ⟨Nat.le_of_ble_eq_true rfl, Nat.le_of_ble_eq_true rfl⟩ ⟨Nat.le_of_ble_eq_true rfl, Nat.le_of_ble_eq_true rfl⟩ rfl rfl (Nat.le_of_ble_eq_true rfl) d_C_move_2
set_option maxHeartbeats 4000000 in
set_option maxRecDepth 100000 in
theorem c_C_violation_b (l : Launch) (hfl : l.flags = pinnedFlags ++ [noTraceFlag]) (g : EG) (ws : va_W) (w : CW) (n : Int32) (wh : Int32) (hC : Cin g ws w) (hk : Cok w) (hbad : jc_requireFinding w n = 1) : Th l g ws y_C_violation prog_1_method_8_code 3 (some FieldType.int) 7 121 1 6 [.ref (cA w), .int n, .int wh] xI := by
  refine Th.start (by decide +kernel) hfl (Nat.le_of_ble_eq_true rfl) ?_
  intro p e s m below meth c ls hx hb hr hml hown hG hlk hP hK hZ hexc htr hl
  have hl : lv_has ls 3 [(0, .ref (cA w)), (1, .int n), (2, .int wh)] := hl
  have hown : s.vm.findClass "CleanChecks" = some m.cls := hown
  refine lv_aload_n hx hb d_C_violation_0 rfl (lv_at hl 0 rfl) ?_
  refine lv_iload_n hx hb d_C_violation_1 rfl (lv_at hl 1 rfl) ?_
  exact thr_callV (As := [.int n]) (rest := []) hx hb (hml.trans hl.1.symm) hG hown hK hC.1.1 rfl hP hZ hexc hlk (c_C_requireFinding_t1 l hfl g ws w n hC hk hbad) q_662 q_48 q_659 q_661 q_27 hd_C_requireFinding ⟨Nat.le_of_ble_eq_true rfl, Nat.le_of_ble_eq_true rfl⟩ ⟨Nat.le_of_ble_eq_true rfl, Nat.le_of_ble_eq_true rfl⟩ rfl rfl (Nat.le_of_ble_eq_true rfl) d_C_violation_2
set_option maxHeartbeats 4000000 in
set_option maxRecDepth 100000 in
theorem c_C_place_b (l : Launch) (hfl : l.flags = pinnedFlags ++ [noTraceFlag]) (g : EG) (ws : va_W) (w : CW) (n : Int32) (ax : Int32) (hC : Cin g ws w) (hk : Cok w) (hbad : jc_requireFinding w n = 1) : Th l g ws y_C_place prog_1_method_9_code 3 (some FieldType.long) 7 121 1 6 [.ref (cA w), .int n, .int ax] xI := by
  refine Th.start (by decide +kernel) hfl (Nat.le_of_ble_eq_true rfl) ?_
  intro p e s m below meth c ls hx hb hr hml hown hG hlk hP hK hZ hexc htr hl
  have hl : lv_has ls 3 [(0, .ref (cA w)), (1, .int n), (2, .int ax)] := hl
  have hown : s.vm.findClass "CleanChecks" = some m.cls := hown
  refine lv_aload_n hx hb d_C_place_0 rfl (lv_at hl 0 rfl) ?_
  refine lv_iload_n hx hb d_C_place_1 rfl (lv_at hl 1 rfl) ?_
  exact thr_callV (As := [.int n]) (rest := []) hx hb (hml.trans hl.1.symm) hG hown hK hC.1.1 rfl hP hZ hexc hlk (c_C_requireFinding_t1 l hfl g ws w n hC hk hbad) q_662 q_48 q_659 q_661 q_27 hd_C_requireFinding ⟨Nat.le_of_ble_eq_true rfl, Nat.le_of_ble_eq_true rfl⟩ ⟨Nat.le_of_ble_eq_true rfl, Nat.le_of_ble_eq_true rfl⟩ rfl rfl (Nat.le_of_ble_eq_true rfl) d_C_place_2
set_option maxHeartbeats 4000000 in
set_option maxRecDepth 100000 in
theorem c_C_waive_b (l : Launch) (hfl : l.flags = pinnedFlags ++ [noTraceFlag]) (g : EG) (ws : va_W) (w : CW) (n : Int32)  (hC : Cin g ws w) (hk : Cok w) (hbad : jc_requireFinding w n = 1) : Th l g ws y_C_waive prog_1_method_10_code 3 (some FieldType.boolean) 7 121 1 6 [.ref (cA w), .int n] xI := by
  refine Th.start (by decide +kernel) hfl (Nat.le_of_ble_eq_true rfl) ?_
  intro p e s m below meth c ls hx hb hr hml hown hG hlk hP hK hZ hexc htr hl
  have hl : lv_has ls 3 [(0, .ref (cA w)), (1, .int n)] := hl
  have hown : s.vm.findClass "CleanChecks" = some m.cls := hown
  refine lv_aload_n hx hb d_C_waive_0 rfl (lv_at hl 0 rfl) ?_
  refine lv_iload_n hx hb d_C_waive_1 rfl (lv_at hl 1 rfl) ?_
  exact thr_callV (As := [.int n]) (rest := []) hx hb (hml.trans hl.1.symm) hG hown hK hC.1.1 rfl hP hZ hexc hlk (c_C_requireFinding_t1 l hfl g ws w n hC hk hbad) q_662 q_48 q_659 q_661 q_27 hd_C_requireFinding ⟨Nat.le_of_ble_eq_true rfl, Nat.le_of_ble_eq_true rfl⟩ ⟨Nat.le_of_ble_eq_true rfl, Nat.le_of_ble_eq_true rfl⟩ rfl rfl (Nat.le_of_ble_eq_true rfl) d_C_waive_2
set_option maxHeartbeats 4000000 in
set_option maxRecDepth 100000 in
theorem c_C_order_b (l : Launch) (hfl : l.flags = pinnedFlags ++ [noTraceFlag]) (g : EG) (ws : va_W) (w : CW) (n : Int32)  (hC : Cin g ws w) (hk : Cok w) (hbad : jc_requireFinding w n = 1) : Th l g ws y_C_order prog_1_method_15_code 2 (some FieldType.int) 7 121 1 6 [.ref (cA w), .int n] xI := by
  refine Th.start (by decide +kernel) hfl (Nat.le_of_ble_eq_true rfl) ?_
  intro p e s m below meth c ls hx hb hr hml hown hG hlk hP hK hZ hexc htr hl
  have hl : lv_has ls 2 [(0, .ref (cA w)), (1, .int n)] := hl
  have hown : s.vm.findClass "CleanChecks" = some m.cls := hown
  refine lv_aload_n hx hb d_C_order_0 rfl (lv_at hl 0 rfl) ?_
  refine lv_iload_n hx hb d_C_order_1 rfl (lv_at hl 1 rfl) ?_
  exact thr_callV (As := [.int n]) (rest := []) hx hb (hml.trans hl.1.symm) hG hown hK hC.1.1 rfl hP hZ hexc hlk (c_C_requireFinding_t1 l hfl g ws w n hC hk hbad) q_662 q_48 q_659 q_661 q_27 hd_C_requireFinding ⟨Nat.le_of_ble_eq_true rfl, Nat.le_of_ble_eq_true rfl⟩ ⟨Nat.le_of_ble_eq_true rfl, Nat.le_of_ble_eq_true rfl⟩ rfl rfl (Nat.le_of_ble_eq_true rfl) d_C_order_2
