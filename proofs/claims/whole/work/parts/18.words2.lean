/-! words that the exceptions need, the good ones (declares, castable, laysStatic, isRef of a static are not good: they must be carried in xF) -/
set_option maxRecDepth 100000 in
theorem xw838 : (Jvm.Cond.superclass "java/lang/Throwable" "java/lang/Object") ∈ xWs := xWs_of (lw_T (i := 838) rfl) rfl
set_option maxRecDepth 100000 in
theorem xw851 : (Jvm.Cond.codeSync ({ cls := "java/lang/Throwable", name := "fillInStackTrace", desc := "()Ljava/lang/Throwable;" } : Jvm.MethodName) prog_25_method_18_code (1 : Nat) (Option.some (Jvm.ClassFile.FieldType.object "java/lang/Throwable"))) ∈ xWs := xWs_of (lw_T (i := 851) rfl) rfl
set_option maxRecDepth 100000 in
theorem xw856 : (Jvm.Cond.native ({ cls := "java/lang/Throwable", name := "fillInStackTrace", desc := "(I)Ljava/lang/Throwable;" } : Jvm.MethodName)) ∈ xWs := xWs_of (lw_T (i := 856) rfl) rfl
set_option maxRecDepth 100000 in
theorem xw882 : (Jvm.Cond.superclass "java/lang/IllegalArgumentException" "java/lang/RuntimeException") ∈ xWs := xWs_of (lw_T (i := 882) rfl) rfl
set_option maxRecDepth 100000 in
theorem xw898 : (Jvm.Cond.superclass "java/lang/IndexOutOfBoundsException" "java/lang/RuntimeException") ∈ xWs := xWs_of (lw_T (i := 898) rfl) rfl
set_option maxRecDepth 100000 in
theorem xw968 : (Jvm.Cond.superclass "java/lang/IllegalStateException" "java/lang/RuntimeException") ∈ xWs := xWs_of (lw_T (i := 968) rfl) rfl
