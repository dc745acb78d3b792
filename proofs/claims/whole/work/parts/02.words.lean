/-! the words of the tables that hold at every call, by their places (printed by gen/names.py) -/
def xWs : List Cond := lw_tbl.filter goodWord
theorem xWs_of {i : Nat} {w : Cond} (h : lw_tbl[i]? = some w) (g : goodWord w = true) : w ∈ xWs := List.mem_filter.mpr ⟨List.mem_of_getElem? h, g⟩
theorem lw_len : (k2_sels lw_privs).length = 73 := by decide +kernel
theorem lw_T {i : Nat} {w : Cond} (h : tables_1[i]? = some w) : lw_tbl[73 + i]? = some w := by
  unfold lw_tbl
  rw [List.getElem?_append_right (by rw [lw_len]; omega), lw_len, Nat.add_sub_cancel_left]; exact h
theorem xw_sel {i : Nat} {w : Cond} (h : (k2_sels lw_privs)[i]? = some w) (g : goodWord w = true) : w ∈ xWs := by
  refine xWs_of (i := i) ?_ g
  unfold lw_tbl
  have hl := (List.getElem?_eq_some_iff.mp h).1
  rw [List.getElem?_append_left hl]; exact h
set_option maxRecDepth 100000 in
theorem xw0 : (Jvm.Cond.initialized "LintDeskLaw") ∈ xWs := xWs_of (lw_T (i := 0) rfl) rfl
set_option maxRecDepth 100000 in
theorem xw1 : (Jvm.Cond.initialized "LintDesk") ∈ xWs := xWs_of (lw_T (i := 1) rfl) rfl
set_option maxRecDepth 100000 in
theorem xw2 : (Jvm.Cond.initialized "LintDesk$Letters") ∈ xWs := xWs_of (lw_T (i := 2) rfl) rfl
set_option maxRecDepth 100000 in
theorem xw3 : (Jvm.Cond.initialized "LintDesk$Settings") ∈ xWs := xWs_of (lw_T (i := 3) rfl) rfl
set_option maxRecDepth 100000 in
theorem xw4 : (Jvm.Cond.initialized "LintDesk$Tokens") ∈ xWs := xWs_of (lw_T (i := 4) rfl) rfl
set_option maxRecDepth 100000 in
theorem xw5 : (Jvm.Cond.initialized "LintDesk$Scopes") ∈ xWs := xWs_of (lw_T (i := 5) rfl) rfl
set_option maxRecDepth 100000 in
theorem xw6 : (Jvm.Cond.initialized "LintDesk$Things") ∈ xWs := xWs_of (lw_T (i := 6) rfl) rfl
set_option maxRecDepth 100000 in
theorem xw7 : (Jvm.Cond.initialized "LintDesk$Marks") ∈ xWs := xWs_of (lw_T (i := 7) rfl) rfl
set_option maxRecDepth 100000 in
theorem xw8 : (Jvm.Cond.initialized "LintDesk$Binder") ∈ xWs := xWs_of (lw_T (i := 8) rfl) rfl
set_option maxRecDepth 100000 in
theorem xw9 : (Jvm.Cond.initialized "LintDesk$Parser") ∈ xWs := xWs_of (lw_T (i := 9) rfl) rfl
set_option maxRecDepth 100000 in
theorem xw10 : (Jvm.Cond.initialized "LintDesk$Reading") ∈ xWs := xWs_of (lw_T (i := 10) rfl) rfl
set_option maxRecDepth 100000 in
theorem xw11 : (Jvm.Cond.initialized "java/lang/Enum") ∈ xWs := xWs_of (lw_T (i := 11) rfl) rfl
set_option maxRecDepth 100000 in
theorem xw12 : (Jvm.Cond.initialized "LintDesk$Token") ∈ xWs := xWs_of (lw_T (i := 12) rfl) rfl
set_option maxRecDepth 100000 in
theorem xw13 : (Jvm.Cond.initialized "java/lang/String") ∈ xWs := xWs_of (lw_T (i := 13) rfl) rfl
set_option maxRecDepth 100000 in
theorem xw14 : (Jvm.Cond.initialized "java/lang/StringLatin1") ∈ xWs := xWs_of (lw_T (i := 14) rfl) rfl
set_option maxRecDepth 100000 in
theorem xw15 : (Jvm.Cond.initialized "jdk/internal/util/Preconditions") ∈ xWs := xWs_of (lw_T (i := 15) rfl) rfl
set_option maxRecDepth 100000 in
theorem xw16 : (Jvm.Cond.initialized "java/lang/StringUTF16") ∈ xWs := xWs_of (lw_T (i := 16) rfl) rfl
set_option maxRecDepth 100000 in
theorem xw17 : (Jvm.Cond.initialized "LintDesk$1") ∈ xWs := xWs_of (lw_T (i := 17) rfl) rfl
set_option maxRecDepth 100000 in
theorem xw18 : (Jvm.Cond.initialized "LintDeskModel") ∈ xWs := xWs_of (lw_T (i := 18) rfl) rfl
set_option maxRecDepth 100000 in
theorem xw19 : (Jvm.Cond.initialized "java/lang/Throwable") ∈ xWs := xWs_of (lw_T (i := 19) rfl) rfl
set_option maxRecDepth 100000 in
theorem xw20 : (Jvm.Cond.initialized "java/lang/Exception") ∈ xWs := xWs_of (lw_T (i := 20) rfl) rfl
set_option maxRecDepth 100000 in
theorem xw21 : (Jvm.Cond.initialized "java/lang/RuntimeException") ∈ xWs := xWs_of (lw_T (i := 21) rfl) rfl
set_option maxRecDepth 100000 in
theorem xw22 : (Jvm.Cond.initialized "java/lang/IllegalArgumentException") ∈ xWs := xWs_of (lw_T (i := 22) rfl) rfl
set_option maxRecDepth 100000 in
theorem xw23 : (Jvm.Cond.initialized "java/lang/IndexOutOfBoundsException") ∈ xWs := xWs_of (lw_T (i := 23) rfl) rfl
set_option maxRecDepth 100000 in
theorem xw24 : (Jvm.Cond.initialized "java/lang/Integer") ∈ xWs := xWs_of (lw_T (i := 24) rfl) rfl
set_option maxRecDepth 100000 in
theorem xw25 : (Jvm.Cond.initialized "java/lang/IllegalStateException") ∈ xWs := xWs_of (lw_T (i := 25) rfl) rfl
set_option maxRecDepth 100000 in
theorem xw26 : (Jvm.Cond.classLink "LintDeskLaw" (8 : Nat) "LintDesk") ∈ xWs := xWs_of (lw_T (i := 26) rfl) rfl
set_option maxRecDepth 100000 in
theorem xw27 : (Jvm.Cond.instantiable "LintDesk" (6 : Nat)) ∈ xWs := xWs_of (lw_T (i := 27) rfl) rfl
set_option maxRecDepth 100000 in
theorem xw28 : (Jvm.Cond.methodLink "LintDeskLaw" (47 : Nat) ({ cls := "LintDesk", name := "<init>", desc := "()V" } : Jvm.MethodName)) ∈ xWs := xWs_of (lw_T (i := 28) rfl) rfl
set_option maxRecDepth 100000 in
theorem xw29 : (Jvm.Cond.instanceMethod ({ cls := "LintDesk", name := "<init>", desc := "()V" } : Jvm.MethodName)) ∈ xWs := xWs_of (lw_T (i := 29) rfl) rfl
set_option maxRecDepth 100000 in
theorem xw30 : (Jvm.Cond.code ({ cls := "LintDesk", name := "<init>", desc := "()V" } : Jvm.MethodName) prog_1_method_1_code (1 : Nat) (Option.none : Option Jvm.ClassFile.FieldType)) ∈ xWs := xWs_of (lw_T (i := 30) rfl) rfl
set_option maxRecDepth 100000 in
theorem xw31 : (Jvm.Cond.methodLink "LintDesk" (3 : Nat) ({ cls := "java/lang/Object", name := "<init>", desc := "()V" } : Jvm.MethodName)) ∈ xWs := xWs_of (lw_T (i := 31) rfl) rfl
set_option maxRecDepth 100000 in
theorem xw32 : (Jvm.Cond.instanceMethod ({ cls := "java/lang/Object", name := "<init>", desc := "()V" } : Jvm.MethodName)) ∈ xWs := xWs_of (lw_T (i := 32) rfl) rfl
set_option maxRecDepth 100000 in
theorem xw33 : (Jvm.Cond.code ({ cls := "java/lang/Object", name := "<init>", desc := "()V" } : Jvm.MethodName) object_method_1_code (1 : Nat) (Option.none : Option Jvm.ClassFile.FieldType)) ∈ xWs := xWs_of (lw_T (i := 33) rfl) rfl
set_option maxRecDepth 100000 in
theorem xw34 : (Jvm.Cond.classLink "LintDesk" (9 : Nat) "LintDesk$Letters") ∈ xWs := xWs_of (lw_T (i := 34) rfl) rfl
set_option maxRecDepth 100000 in
theorem xw35 : (Jvm.Cond.instantiable "LintDesk$Letters" (2 : Nat)) ∈ xWs := xWs_of (lw_T (i := 35) rfl) rfl
set_option maxRecDepth 100000 in
theorem xw37 : (Jvm.Cond.instanceMethod ({ cls := "LintDesk$Letters", name := "<init>", desc := "()V" } : Jvm.MethodName)) ∈ xWs := xWs_of (lw_T (i := 37) rfl) rfl
set_option maxRecDepth 100000 in
theorem xw38 : (Jvm.Cond.code ({ cls := "LintDesk$Letters", name := "<init>", desc := "()V" } : Jvm.MethodName) prog_4_method_1_code (1 : Nat) (Option.none : Option Jvm.ClassFile.FieldType)) ∈ xWs := xWs_of (lw_T (i := 38) rfl) rfl
set_option maxRecDepth 100000 in
theorem xw39 : (Jvm.Cond.methodLink "LintDesk$Letters" (3 : Nat) ({ cls := "java/lang/Object", name := "<init>", desc := "()V" } : Jvm.MethodName)) ∈ xWs := xWs_of (lw_T (i := 39) rfl) rfl
set_option maxRecDepth 100000 in
theorem xw40 : (Jvm.Cond.fieldLink "LintDesk$Letters" (9 : Nat) "LintDesk$Letters" "row" "[C") ∈ xWs := xWs_of (lw_T (i := 40) rfl) rfl
set_option maxRecDepth 100000 in
theorem xw41 : (Jvm.Cond.fieldLink "LintDesk$Letters" (15 : Nat) "LintDesk$Letters" "size" "I") ∈ xWs := xWs_of (lw_T (i := 41) rfl) rfl
set_option maxRecDepth 100000 in
theorem xw44 : (Jvm.Cond.laysFinal "LintDesk$Letters" "LintDesk$Letters" "row" "[C") ∈ xWs := xWs_of (lw_T (i := 44) rfl) rfl
set_option maxRecDepth 100000 in
theorem xw46 : (Jvm.Cond.lays "LintDesk$Letters" "LintDesk$Letters" "size" "I") ∈ xWs := xWs_of (lw_T (i := 46) rfl) rfl
set_option maxRecDepth 100000 in
theorem xw49 : (Jvm.Cond.arrayClass Jvm.ClassFile.FieldType.char) ∈ xWs := xWs_of (lw_T (i := 49) rfl) rfl
set_option maxRecDepth 100000 in
theorem xw50 : (Jvm.Cond.classLink "LintDesk" (16 : Nat) "LintDesk$Settings") ∈ xWs := xWs_of (lw_T (i := 50) rfl) rfl
set_option maxRecDepth 100000 in
theorem xw51 : (Jvm.Cond.instantiable "LintDesk$Settings" (3 : Nat)) ∈ xWs := xWs_of (lw_T (i := 51) rfl) rfl
set_option maxRecDepth 100000 in
theorem xw53 : (Jvm.Cond.instanceMethod ({ cls := "LintDesk$Settings", name := "<init>", desc := "()V" } : Jvm.MethodName)) ∈ xWs := xWs_of (lw_T (i := 53) rfl) rfl
set_option maxRecDepth 100000 in
theorem xw54 : (Jvm.Cond.code ({ cls := "LintDesk$Settings", name := "<init>", desc := "()V" } : Jvm.MethodName) prog_9_method_1_code (1 : Nat) (Option.none : Option Jvm.ClassFile.FieldType)) ∈ xWs := xWs_of (lw_T (i := 54) rfl) rfl
set_option maxRecDepth 100000 in
theorem xw55 : (Jvm.Cond.methodLink "LintDesk$Settings" (3 : Nat) ({ cls := "java/lang/Object", name := "<init>", desc := "()V" } : Jvm.MethodName)) ∈ xWs := xWs_of (lw_T (i := 55) rfl) rfl
set_option maxRecDepth 100000 in
theorem xw56 : (Jvm.Cond.fieldLink "LintDesk$Settings" (9 : Nat) "LintDesk$Settings" "given" "[J") ∈ xWs := xWs_of (lw_T (i := 56) rfl) rfl
set_option maxRecDepth 100000 in
theorem xw57 : (Jvm.Cond.fieldLink "LintDesk$Settings" (19 : Nat) "LintDesk$Settings" "givenSize" "I") ∈ xWs := xWs_of (lw_T (i := 57) rfl) rfl
set_option maxRecDepth 100000 in
theorem xw59 : (Jvm.Cond.fieldLink "LintDesk$Settings" (15 : Nat) "LintDesk$Settings" "rulesOn" "I") ∈ xWs := xWs_of (lw_T (i := 59) rfl) rfl
set_option maxRecDepth 100000 in
theorem xw60 : (Jvm.Cond.laysFinal "LintDesk$Settings" "LintDesk$Settings" "given" "[J") ∈ xWs := xWs_of (lw_T (i := 60) rfl) rfl
set_option maxRecDepth 100000 in
theorem xw62 : (Jvm.Cond.lays "LintDesk$Settings" "LintDesk$Settings" "givenSize" "I") ∈ xWs := xWs_of (lw_T (i := 62) rfl) rfl
set_option maxRecDepth 100000 in
theorem xw64 : (Jvm.Cond.lays "LintDesk$Settings" "LintDesk$Settings" "rulesOn" "I") ∈ xWs := xWs_of (lw_T (i := 64) rfl) rfl
set_option maxRecDepth 100000 in
theorem xw67 : (Jvm.Cond.arrayClass Jvm.ClassFile.FieldType.long) ∈ xWs := xWs_of (lw_T (i := 67) rfl) rfl
set_option maxRecDepth 100000 in
theorem xw68 : (Jvm.Cond.methodLink "LintDesk" (23 : Nat) ({ cls := "LintDesk", name := "newReading", desc := "()LLintDesk$Reading;" } : Jvm.MethodName)) ∈ xWs := xWs_of (lw_T (i := 68) rfl) rfl
set_option maxRecDepth 100000 in
theorem xw69 : (Jvm.Cond.static ({ cls := "LintDesk", name := "newReading", desc := "()LLintDesk$Reading;" } : Jvm.MethodName)) ∈ xWs := xWs_of (lw_T (i := 69) rfl) rfl
set_option maxRecDepth 100000 in
theorem xw70 : (Jvm.Cond.code ({ cls := "LintDesk", name := "newReading", desc := "()LLintDesk$Reading;" } : Jvm.MethodName) prog_1_method_13_code (7 : Nat) (Option.some (Jvm.ClassFile.FieldType.object "LintDesk$Reading"))) ∈ xWs := xWs_of (lw_T (i := 70) rfl) rfl
set_option maxRecDepth 100000 in
theorem xw71 : (Jvm.Cond.classLink "LintDesk" (152 : Nat) "LintDesk$Tokens") ∈ xWs := xWs_of (lw_T (i := 71) rfl) rfl
set_option maxRecDepth 100000 in
theorem xw72 : (Jvm.Cond.instantiable "LintDesk$Tokens" (7 : Nat)) ∈ xWs := xWs_of (lw_T (i := 72) rfl) rfl
set_option maxRecDepth 100000 in
theorem xw73 : (Jvm.Cond.methodLink "LintDesk" (229 : Nat) ({ cls := "LintDesk$Tokens", name := "<init>", desc := "(LLintDesk$Letters;)V" } : Jvm.MethodName)) ∈ xWs := xWs_of (lw_T (i := 73) rfl) rfl
set_option maxRecDepth 100000 in
theorem xw74 : (Jvm.Cond.instanceMethod ({ cls := "LintDesk$Tokens", name := "<init>", desc := "(LLintDesk$Letters;)V" } : Jvm.MethodName)) ∈ xWs := xWs_of (lw_T (i := 74) rfl) rfl
set_option maxRecDepth 100000 in
theorem xw75 : (Jvm.Cond.code ({ cls := "LintDesk$Tokens", name := "<init>", desc := "(LLintDesk$Letters;)V" } : Jvm.MethodName) prog_12_method_1_code (2 : Nat) (Option.none : Option Jvm.ClassFile.FieldType)) ∈ xWs := xWs_of (lw_T (i := 75) rfl) rfl
set_option maxRecDepth 100000 in
theorem xw76 : (Jvm.Cond.methodLink "LintDesk$Tokens" (3 : Nat) ({ cls := "java/lang/Object", name := "<init>", desc := "()V" } : Jvm.MethodName)) ∈ xWs := xWs_of (lw_T (i := 76) rfl) rfl
set_option maxRecDepth 100000 in
theorem xw77 : (Jvm.Cond.classLink "LintDesk$Tokens" (9 : Nat) "LintDesk$Token") ∈ xWs := xWs_of (lw_T (i := 77) rfl) rfl
set_option maxRecDepth 100000 in
theorem xw79 : (Jvm.Cond.fieldLink "LintDesk$Tokens" (31 : Nat) "LintDesk$Tokens" "letters" "LLintDesk$Letters;") ∈ xWs := xWs_of (lw_T (i := 79) rfl) rfl
set_option maxRecDepth 100000 in
theorem xw80 : (Jvm.Cond.fieldLink "LintDesk$Tokens" (11 : Nat) "LintDesk$Tokens" "kinds" "[LLintDesk$Token;") ∈ xWs := xWs_of (lw_T (i := 80) rfl) rfl
set_option maxRecDepth 100000 in
theorem xw81 : (Jvm.Cond.fieldLink "LintDesk$Tokens" (17 : Nat) "LintDesk$Tokens" "starts" "[I") ∈ xWs := xWs_of (lw_T (i := 81) rfl) rfl
set_option maxRecDepth 100000 in
theorem xw82 : (Jvm.Cond.fieldLink "LintDesk$Tokens" (21 : Nat) "LintDesk$Tokens" "ends" "[I") ∈ xWs := xWs_of (lw_T (i := 82) rfl) rfl
set_option maxRecDepth 100000 in
theorem xw83 : (Jvm.Cond.fieldLink "LintDesk$Tokens" (24 : Nat) "LintDesk$Tokens" "octets" "[J") ∈ xWs := xWs_of (lw_T (i := 83) rfl) rfl
set_option maxRecDepth 100000 in
theorem xw84 : (Jvm.Cond.fieldLink "LintDesk$Tokens" (28 : Nat) "LintDesk$Tokens" "words" "[I") ∈ xWs := xWs_of (lw_T (i := 84) rfl) rfl
set_option maxRecDepth 100000 in
theorem xw85 : (Jvm.Cond.fieldLink "LintDesk$Tokens" (35 : Nat) "LintDesk$Tokens" "size" "I") ∈ xWs := xWs_of (lw_T (i := 85) rfl) rfl
set_option maxRecDepth 100000 in
theorem xw88 : (Jvm.Cond.laysFinal "LintDesk$Tokens" "LintDesk$Tokens" "letters" "LLintDesk$Letters;") ∈ xWs := xWs_of (lw_T (i := 88) rfl) rfl
set_option maxRecDepth 100000 in
theorem xw90 : (Jvm.Cond.laysFinal "LintDesk$Tokens" "LintDesk$Tokens" "kinds" "[LLintDesk$Token;") ∈ xWs := xWs_of (lw_T (i := 90) rfl) rfl
set_option maxRecDepth 100000 in
theorem xw92 : (Jvm.Cond.laysFinal "LintDesk$Tokens" "LintDesk$Tokens" "starts" "[I") ∈ xWs := xWs_of (lw_T (i := 92) rfl) rfl
set_option maxRecDepth 100000 in
theorem xw94 : (Jvm.Cond.laysFinal "LintDesk$Tokens" "LintDesk$Tokens" "ends" "[I") ∈ xWs := xWs_of (lw_T (i := 94) rfl) rfl
set_option maxRecDepth 100000 in
theorem xw96 : (Jvm.Cond.laysFinal "LintDesk$Tokens" "LintDesk$Tokens" "octets" "[J") ∈ xWs := xWs_of (lw_T (i := 96) rfl) rfl
set_option maxRecDepth 100000 in
theorem xw98 : (Jvm.Cond.laysFinal "LintDesk$Tokens" "LintDesk$Tokens" "words" "[I") ∈ xWs := xWs_of (lw_T (i := 98) rfl) rfl
set_option maxRecDepth 100000 in
theorem xw100 : (Jvm.Cond.lays "LintDesk$Tokens" "LintDesk$Tokens" "size" "I") ∈ xWs := xWs_of (lw_T (i := 100) rfl) rfl
set_option maxRecDepth 100000 in
theorem xw103 : (Jvm.Cond.arrayClass Jvm.ClassFile.FieldType.int) ∈ xWs := xWs_of (lw_T (i := 103) rfl) rfl
set_option maxRecDepth 100000 in
theorem xw104 : (Jvm.Cond.classLink "LintDesk" (207 : Nat) "LintDesk$Scopes") ∈ xWs := xWs_of (lw_T (i := 104) rfl) rfl
set_option maxRecDepth 100000 in
theorem xw105 : (Jvm.Cond.instantiable "LintDesk$Scopes" (4 : Nat)) ∈ xWs := xWs_of (lw_T (i := 105) rfl) rfl
set_option maxRecDepth 100000 in
theorem xw107 : (Jvm.Cond.instanceMethod ({ cls := "LintDesk$Scopes", name := "<init>", desc := "()V" } : Jvm.MethodName)) ∈ xWs := xWs_of (lw_T (i := 107) rfl) rfl
set_option maxRecDepth 100000 in
theorem xw108 : (Jvm.Cond.code ({ cls := "LintDesk$Scopes", name := "<init>", desc := "()V" } : Jvm.MethodName) prog_8_method_1_code (1 : Nat) (Option.none : Option Jvm.ClassFile.FieldType)) ∈ xWs := xWs_of (lw_T (i := 108) rfl) rfl
set_option maxRecDepth 100000 in
theorem xw109 : (Jvm.Cond.methodLink "LintDesk$Scopes" (3 : Nat) ({ cls := "java/lang/Object", name := "<init>", desc := "()V" } : Jvm.MethodName)) ∈ xWs := xWs_of (lw_T (i := 109) rfl) rfl
set_option maxRecDepth 100000 in
theorem xw110 : (Jvm.Cond.fieldLink "LintDesk$Scopes" (9 : Nat) "LintDesk$Scopes" "around" "[I") ∈ xWs := xWs_of (lw_T (i := 110) rfl) rfl
set_option maxRecDepth 100000 in
theorem xw111 : (Jvm.Cond.fieldLink "LintDesk$Scopes" (15 : Nat) "LintDesk$Scopes" "homes" "[I") ∈ xWs := xWs_of (lw_T (i := 111) rfl) rfl
set_option maxRecDepth 100000 in
theorem xw112 : (Jvm.Cond.fieldLink "LintDesk$Scopes" (18 : Nat) "LintDesk$Scopes" "levels" "[I") ∈ xWs := xWs_of (lw_T (i := 112) rfl) rfl
set_option maxRecDepth 100000 in
theorem xw113 : (Jvm.Cond.fieldLink "LintDesk$Scopes" (21 : Nat) "LintDesk$Scopes" "size" "I") ∈ xWs := xWs_of (lw_T (i := 113) rfl) rfl
set_option maxRecDepth 100000 in
theorem xw115 : (Jvm.Cond.laysFinal "LintDesk$Scopes" "LintDesk$Scopes" "around" "[I") ∈ xWs := xWs_of (lw_T (i := 115) rfl) rfl
set_option maxRecDepth 100000 in
theorem xw117 : (Jvm.Cond.laysFinal "LintDesk$Scopes" "LintDesk$Scopes" "homes" "[I") ∈ xWs := xWs_of (lw_T (i := 117) rfl) rfl
set_option maxRecDepth 100000 in
theorem xw119 : (Jvm.Cond.laysFinal "LintDesk$Scopes" "LintDesk$Scopes" "levels" "[I") ∈ xWs := xWs_of (lw_T (i := 119) rfl) rfl
set_option maxRecDepth 100000 in
theorem xw121 : (Jvm.Cond.lays "LintDesk$Scopes" "LintDesk$Scopes" "size" "I") ∈ xWs := xWs_of (lw_T (i := 121) rfl) rfl
set_option maxRecDepth 100000 in
theorem xw124 : (Jvm.Cond.classLink "LintDesk" (180 : Nat) "LintDesk$Things") ∈ xWs := xWs_of (lw_T (i := 124) rfl) rfl
set_option maxRecDepth 100000 in
theorem xw125 : (Jvm.Cond.instantiable "LintDesk$Things" (9 : Nat)) ∈ xWs := xWs_of (lw_T (i := 125) rfl) rfl
set_option maxRecDepth 100000 in
theorem xw127 : (Jvm.Cond.instanceMethod ({ cls := "LintDesk$Things", name := "<init>", desc := "()V" } : Jvm.MethodName)) ∈ xWs := xWs_of (lw_T (i := 127) rfl) rfl
set_option maxRecDepth 100000 in
theorem xw128 : (Jvm.Cond.code ({ cls := "LintDesk$Things", name := "<init>", desc := "()V" } : Jvm.MethodName) prog_10_method_1_code (1 : Nat) (Option.none : Option Jvm.ClassFile.FieldType)) ∈ xWs := xWs_of (lw_T (i := 128) rfl) rfl
set_option maxRecDepth 100000 in
theorem xw129 : (Jvm.Cond.methodLink "LintDesk$Things" (3 : Nat) ({ cls := "java/lang/Object", name := "<init>", desc := "()V" } : Jvm.MethodName)) ∈ xWs := xWs_of (lw_T (i := 129) rfl) rfl
set_option maxRecDepth 100000 in
theorem xw130 : (Jvm.Cond.fieldLink "LintDesk$Things" (9 : Nat) "LintDesk$Things" "names" "[I") ∈ xWs := xWs_of (lw_T (i := 130) rfl) rfl
set_option maxRecDepth 100000 in
theorem xw133 : (Jvm.Cond.fieldLink "LintDesk$Things" (15 : Nat) "LintDesk$Things" "words" "[I") ∈ xWs := xWs_of (lw_T (i := 133) rfl) rfl
set_option maxRecDepth 100000 in
theorem xw135 : (Jvm.Cond.fieldLink "LintDesk$Things" (18 : Nat) "LintDesk$Things" "kinds" "[I") ∈ xWs := xWs_of (lw_T (i := 135) rfl) rfl
set_option maxRecDepth 100000 in
theorem xw138 : (Jvm.Cond.fieldLink "LintDesk$Things" (21 : Nat) "LintDesk$Things" "scopes" "[I") ∈ xWs := xWs_of (lw_T (i := 138) rfl) rfl
set_option maxRecDepth 100000 in
theorem xw141 : (Jvm.Cond.fieldLink "LintDesk$Things" (24 : Nat) "LintDesk$Things" "reads" "[I") ∈ xWs := xWs_of (lw_T (i := 141) rfl) rfl
set_option maxRecDepth 100000 in
theorem xw144 : (Jvm.Cond.fieldLink "LintDesk$Things" (27 : Nat) "LintDesk$Things" "writes" "[I") ∈ xWs := xWs_of (lw_T (i := 144) rfl) rfl
set_option maxRecDepth 100000 in
theorem xw147 : (Jvm.Cond.fieldLink "LintDesk$Things" (30 : Nat) "LintDesk$Things" "times" "[I") ∈ xWs := xWs_of (lw_T (i := 147) rfl) rfl
set_option maxRecDepth 100000 in
theorem xw150 : (Jvm.Cond.fieldLink "LintDesk$Things" (33 : Nat) "LintDesk$Things" "valued" "[Z") ∈ xWs := xWs_of (lw_T (i := 150) rfl) rfl
set_option maxRecDepth 100000 in
theorem xw152 : (Jvm.Cond.fieldLink "LintDesk$Things" (37 : Nat) "LintDesk$Things" "size" "I") ∈ xWs := xWs_of (lw_T (i := 152) rfl) rfl
set_option maxRecDepth 100000 in
theorem xw155 : (Jvm.Cond.laysFinal "LintDesk$Things" "LintDesk$Things" "names" "[I") ∈ xWs := xWs_of (lw_T (i := 155) rfl) rfl
set_option maxRecDepth 100000 in
theorem xw157 : (Jvm.Cond.laysFinal "LintDesk$Things" "LintDesk$Things" "words" "[I") ∈ xWs := xWs_of (lw_T (i := 157) rfl) rfl
set_option maxRecDepth 100000 in
theorem xw159 : (Jvm.Cond.laysFinal "LintDesk$Things" "LintDesk$Things" "kinds" "[I") ∈ xWs := xWs_of (lw_T (i := 159) rfl) rfl
set_option maxRecDepth 100000 in
theorem xw161 : (Jvm.Cond.laysFinal "LintDesk$Things" "LintDesk$Things" "scopes" "[I") ∈ xWs := xWs_of (lw_T (i := 161) rfl) rfl
set_option maxRecDepth 100000 in
theorem xw163 : (Jvm.Cond.laysFinal "LintDesk$Things" "LintDesk$Things" "reads" "[I") ∈ xWs := xWs_of (lw_T (i := 163) rfl) rfl
set_option maxRecDepth 100000 in
theorem xw165 : (Jvm.Cond.laysFinal "LintDesk$Things" "LintDesk$Things" "writes" "[I") ∈ xWs := xWs_of (lw_T (i := 165) rfl) rfl
set_option maxRecDepth 100000 in
theorem xw167 : (Jvm.Cond.laysFinal "LintDesk$Things" "LintDesk$Things" "times" "[I") ∈ xWs := xWs_of (lw_T (i := 167) rfl) rfl
set_option maxRecDepth 100000 in
theorem xw169 : (Jvm.Cond.laysFinal "LintDesk$Things" "LintDesk$Things" "valued" "[Z") ∈ xWs := xWs_of (lw_T (i := 169) rfl) rfl
set_option maxRecDepth 100000 in
theorem xw171 : (Jvm.Cond.lays "LintDesk$Things" "LintDesk$Things" "size" "I") ∈ xWs := xWs_of (lw_T (i := 171) rfl) rfl
set_option maxRecDepth 100000 in
theorem xw174 : (Jvm.Cond.arrayClass Jvm.ClassFile.FieldType.boolean) ∈ xWs := xWs_of (lw_T (i := 174) rfl) rfl
set_option maxRecDepth 100000 in
theorem xw175 : (Jvm.Cond.classLink "LintDesk" (234 : Nat) "LintDesk$Marks") ∈ xWs := xWs_of (lw_T (i := 175) rfl) rfl
set_option maxRecDepth 100000 in
theorem xw176 : (Jvm.Cond.instantiable "LintDesk$Marks" (3 : Nat)) ∈ xWs := xWs_of (lw_T (i := 176) rfl) rfl
set_option maxRecDepth 100000 in
theorem xw178 : (Jvm.Cond.instanceMethod ({ cls := "LintDesk$Marks", name := "<init>", desc := "()V" } : Jvm.MethodName)) ∈ xWs := xWs_of (lw_T (i := 178) rfl) rfl
set_option maxRecDepth 100000 in
theorem xw179 : (Jvm.Cond.code ({ cls := "LintDesk$Marks", name := "<init>", desc := "()V" } : Jvm.MethodName) prog_5_method_1_code (1 : Nat) (Option.none : Option Jvm.ClassFile.FieldType)) ∈ xWs := xWs_of (lw_T (i := 179) rfl) rfl
set_option maxRecDepth 100000 in
theorem xw180 : (Jvm.Cond.methodLink "LintDesk$Marks" (3 : Nat) ({ cls := "java/lang/Object", name := "<init>", desc := "()V" } : Jvm.MethodName)) ∈ xWs := xWs_of (lw_T (i := 180) rfl) rfl
set_option maxRecDepth 100000 in
theorem xw181 : (Jvm.Cond.fieldLink "LintDesk$Marks" (9 : Nat) "LintDesk$Marks" "rules" "[I") ∈ xWs := xWs_of (lw_T (i := 181) rfl) rfl
set_option maxRecDepth 100000 in
theorem xw182 : (Jvm.Cond.fieldLink "LintDesk$Marks" (15 : Nat) "LintDesk$Marks" "excused" "[I") ∈ xWs := xWs_of (lw_T (i := 182) rfl) rfl
set_option maxRecDepth 100000 in
theorem xw183 : (Jvm.Cond.fieldLink "LintDesk$Marks" (18 : Nat) "LintDesk$Marks" "loose" "[Z") ∈ xWs := xWs_of (lw_T (i := 183) rfl) rfl
set_option maxRecDepth 100000 in
theorem xw184 : (Jvm.Cond.laysFinal "LintDesk$Marks" "LintDesk$Marks" "rules" "[I") ∈ xWs := xWs_of (lw_T (i := 184) rfl) rfl
set_option maxRecDepth 100000 in
theorem xw186 : (Jvm.Cond.laysFinal "LintDesk$Marks" "LintDesk$Marks" "excused" "[I") ∈ xWs := xWs_of (lw_T (i := 186) rfl) rfl
set_option maxRecDepth 100000 in
theorem xw188 : (Jvm.Cond.laysFinal "LintDesk$Marks" "LintDesk$Marks" "loose" "[Z") ∈ xWs := xWs_of (lw_T (i := 188) rfl) rfl
set_option maxRecDepth 100000 in
theorem xw191 : (Jvm.Cond.classLink "LintDesk" (220 : Nat) "LintDesk$Binder") ∈ xWs := xWs_of (lw_T (i := 191) rfl) rfl
set_option maxRecDepth 100000 in
theorem xw192 : (Jvm.Cond.instantiable "LintDesk$Binder" (9 : Nat)) ∈ xWs := xWs_of (lw_T (i := 192) rfl) rfl
set_option maxRecDepth 100000 in
theorem xw193 : (Jvm.Cond.methodLink "LintDesk" (237 : Nat) ({ cls := "LintDesk$Binder", name := "<init>", desc := "(LLintDesk$Tokens;LLintDesk$Scopes;LLintDesk$Things;LLintDesk$Marks;)V" } : Jvm.MethodName)) ∈ xWs := xWs_of (lw_T (i := 193) rfl) rfl
set_option maxRecDepth 100000 in
theorem xw194 : (Jvm.Cond.instanceMethod ({ cls := "LintDesk$Binder", name := "<init>", desc := "(LLintDesk$Tokens;LLintDesk$Scopes;LLintDesk$Things;LLintDesk$Marks;)V" } : Jvm.MethodName)) ∈ xWs := xWs_of (lw_T (i := 194) rfl) rfl
set_option maxRecDepth 100000 in
theorem xw195 : (Jvm.Cond.code ({ cls := "LintDesk$Binder", name := "<init>", desc := "(LLintDesk$Tokens;LLintDesk$Scopes;LLintDesk$Things;LLintDesk$Marks;)V" } : Jvm.MethodName) prog_3_method_1_code (5 : Nat) (Option.none : Option Jvm.ClassFile.FieldType)) ∈ xWs := xWs_of (lw_T (i := 195) rfl) rfl
set_option maxRecDepth 100000 in
theorem xw196 : (Jvm.Cond.methodLink "LintDesk$Binder" (3 : Nat) ({ cls := "java/lang/Object", name := "<init>", desc := "()V" } : Jvm.MethodName)) ∈ xWs := xWs_of (lw_T (i := 196) rfl) rfl
set_option maxRecDepth 100000 in
theorem xw197 : (Jvm.Cond.fieldLink "LintDesk$Binder" (22 : Nat) "LintDesk$Binder" "tokens" "LLintDesk$Tokens;") ∈ xWs := xWs_of (lw_T (i := 197) rfl) rfl
set_option maxRecDepth 100000 in
theorem xw198 : (Jvm.Cond.fieldLink "LintDesk$Binder" (26 : Nat) "LintDesk$Binder" "scopes" "LLintDesk$Scopes;") ∈ xWs := xWs_of (lw_T (i := 198) rfl) rfl
set_option maxRecDepth 100000 in
theorem xw199 : (Jvm.Cond.fieldLink "LintDesk$Binder" (30 : Nat) "LintDesk$Binder" "things" "LLintDesk$Things;") ∈ xWs := xWs_of (lw_T (i := 199) rfl) rfl
set_option maxRecDepth 100000 in
theorem xw200 : (Jvm.Cond.fieldLink "LintDesk$Binder" (34 : Nat) "LintDesk$Binder" "marks" "LLintDesk$Marks;") ∈ xWs := xWs_of (lw_T (i := 200) rfl) rfl
set_option maxRecDepth 100000 in
theorem xw201 : (Jvm.Cond.fieldLink "LintDesk$Binder" (9 : Nat) "LintDesk$Binder" "uses" "[I") ∈ xWs := xWs_of (lw_T (i := 201) rfl) rfl
set_option maxRecDepth 100000 in
theorem xw202 : (Jvm.Cond.fieldLink "LintDesk$Binder" (15 : Nat) "LintDesk$Binder" "useScopes" "[I") ∈ xWs := xWs_of (lw_T (i := 202) rfl) rfl
set_option maxRecDepth 100000 in
theorem xw203 : (Jvm.Cond.fieldLink "LintDesk$Binder" (18 : Nat) "LintDesk$Binder" "writing" "[Z") ∈ xWs := xWs_of (lw_T (i := 203) rfl) rfl
set_option maxRecDepth 100000 in
theorem xw204 : (Jvm.Cond.fieldLink "LintDesk$Binder" (43 : Nat) "LintDesk$Binder" "size" "I") ∈ xWs := xWs_of (lw_T (i := 204) rfl) rfl
set_option maxRecDepth 100000 in
theorem xw205 : (Jvm.Cond.fieldLink "LintDesk$Binder" (47 : Nat) "LintDesk$Binder" "freeUses" "I") ∈ xWs := xWs_of (lw_T (i := 205) rfl) rfl
set_option maxRecDepth 100000 in
theorem xw207 : (Jvm.Cond.laysFinal "LintDesk$Binder" "LintDesk$Binder" "tokens" "LLintDesk$Tokens;") ∈ xWs := xWs_of (lw_T (i := 207) rfl) rfl
set_option maxRecDepth 100000 in
theorem xw209 : (Jvm.Cond.laysFinal "LintDesk$Binder" "LintDesk$Binder" "scopes" "LLintDesk$Scopes;") ∈ xWs := xWs_of (lw_T (i := 209) rfl) rfl
set_option maxRecDepth 100000 in
theorem xw211 : (Jvm.Cond.laysFinal "LintDesk$Binder" "LintDesk$Binder" "things" "LLintDesk$Things;") ∈ xWs := xWs_of (lw_T (i := 211) rfl) rfl
set_option maxRecDepth 100000 in
theorem xw213 : (Jvm.Cond.laysFinal "LintDesk$Binder" "LintDesk$Binder" "marks" "LLintDesk$Marks;") ∈ xWs := xWs_of (lw_T (i := 213) rfl) rfl
set_option maxRecDepth 100000 in
theorem xw215 : (Jvm.Cond.laysFinal "LintDesk$Binder" "LintDesk$Binder" "uses" "[I") ∈ xWs := xWs_of (lw_T (i := 215) rfl) rfl
set_option maxRecDepth 100000 in
theorem xw217 : (Jvm.Cond.laysFinal "LintDesk$Binder" "LintDesk$Binder" "useScopes" "[I") ∈ xWs := xWs_of (lw_T (i := 217) rfl) rfl
set_option maxRecDepth 100000 in
theorem xw219 : (Jvm.Cond.laysFinal "LintDesk$Binder" "LintDesk$Binder" "writing" "[Z") ∈ xWs := xWs_of (lw_T (i := 219) rfl) rfl
set_option maxRecDepth 100000 in
theorem xw221 : (Jvm.Cond.lays "LintDesk$Binder" "LintDesk$Binder" "size" "I") ∈ xWs := xWs_of (lw_T (i := 221) rfl) rfl
set_option maxRecDepth 100000 in
theorem xw223 : (Jvm.Cond.lays "LintDesk$Binder" "LintDesk$Binder" "freeUses" "I") ∈ xWs := xWs_of (lw_T (i := 223) rfl) rfl
set_option maxRecDepth 100000 in
theorem xw226 : (Jvm.Cond.classLink "LintDesk" (240 : Nat) "LintDesk$Parser") ∈ xWs := xWs_of (lw_T (i := 226) rfl) rfl
set_option maxRecDepth 100000 in
theorem xw227 : (Jvm.Cond.instantiable "LintDesk$Parser" (6 : Nat)) ∈ xWs := xWs_of (lw_T (i := 227) rfl) rfl
set_option maxRecDepth 100000 in
theorem xw228 : (Jvm.Cond.methodLink "LintDesk" (242 : Nat) ({ cls := "LintDesk$Parser", name := "<init>", desc := "(LLintDesk$Tokens;LLintDesk$Scopes;LLintDesk$Marks;LLintDesk$Binder;)V" } : Jvm.MethodName)) ∈ xWs := xWs_of (lw_T (i := 228) rfl) rfl
set_option maxRecDepth 100000 in
theorem xw229 : (Jvm.Cond.instanceMethod ({ cls := "LintDesk$Parser", name := "<init>", desc := "(LLintDesk$Tokens;LLintDesk$Scopes;LLintDesk$Marks;LLintDesk$Binder;)V" } : Jvm.MethodName)) ∈ xWs := xWs_of (lw_T (i := 229) rfl) rfl
set_option maxRecDepth 100000 in
theorem xw230 : (Jvm.Cond.code ({ cls := "LintDesk$Parser", name := "<init>", desc := "(LLintDesk$Tokens;LLintDesk$Scopes;LLintDesk$Marks;LLintDesk$Binder;)V" } : Jvm.MethodName) prog_6_method_1_code (5 : Nat) (Option.none : Option Jvm.ClassFile.FieldType)) ∈ xWs := xWs_of (lw_T (i := 230) rfl) rfl
set_option maxRecDepth 100000 in
theorem xw231 : (Jvm.Cond.methodLink "LintDesk$Parser" (3 : Nat) ({ cls := "java/lang/Object", name := "<init>", desc := "()V" } : Jvm.MethodName)) ∈ xWs := xWs_of (lw_T (i := 231) rfl) rfl
set_option maxRecDepth 100000 in
theorem xw232 : (Jvm.Cond.fieldLink "LintDesk$Parser" (9 : Nat) "LintDesk$Parser" "tokens" "LLintDesk$Tokens;") ∈ xWs := xWs_of (lw_T (i := 232) rfl) rfl
set_option maxRecDepth 100000 in
theorem xw233 : (Jvm.Cond.fieldLink "LintDesk$Parser" (15 : Nat) "LintDesk$Parser" "scopes" "LLintDesk$Scopes;") ∈ xWs := xWs_of (lw_T (i := 233) rfl) rfl
set_option maxRecDepth 100000 in
theorem xw234 : (Jvm.Cond.fieldLink "LintDesk$Parser" (19 : Nat) "LintDesk$Parser" "marks" "LLintDesk$Marks;") ∈ xWs := xWs_of (lw_T (i := 234) rfl) rfl
set_option maxRecDepth 100000 in
theorem xw235 : (Jvm.Cond.fieldLink "LintDesk$Parser" (23 : Nat) "LintDesk$Parser" "binder" "LLintDesk$Binder;") ∈ xWs := xWs_of (lw_T (i := 235) rfl) rfl
set_option maxRecDepth 100000 in
theorem xw236 : (Jvm.Cond.fieldLink "LintDesk$Parser" (38 : Nat) "LintDesk$Parser" "at" "I") ∈ xWs := xWs_of (lw_T (i := 236) rfl) rfl
set_option maxRecDepth 100000 in
theorem xw237 : (Jvm.Cond.fieldLink "LintDesk$Parser" (42 : Nat) "LintDesk$Parser" "scope" "I") ∈ xWs := xWs_of (lw_T (i := 237) rfl) rfl
set_option maxRecDepth 100000 in
theorem xw238 : (Jvm.Cond.laysFinal "LintDesk$Parser" "LintDesk$Parser" "tokens" "LLintDesk$Tokens;") ∈ xWs := xWs_of (lw_T (i := 238) rfl) rfl
set_option maxRecDepth 100000 in
theorem xw240 : (Jvm.Cond.laysFinal "LintDesk$Parser" "LintDesk$Parser" "scopes" "LLintDesk$Scopes;") ∈ xWs := xWs_of (lw_T (i := 240) rfl) rfl
set_option maxRecDepth 100000 in
theorem xw242 : (Jvm.Cond.laysFinal "LintDesk$Parser" "LintDesk$Parser" "marks" "LLintDesk$Marks;") ∈ xWs := xWs_of (lw_T (i := 242) rfl) rfl
set_option maxRecDepth 100000 in
theorem xw244 : (Jvm.Cond.laysFinal "LintDesk$Parser" "LintDesk$Parser" "binder" "LLintDesk$Binder;") ∈ xWs := xWs_of (lw_T (i := 244) rfl) rfl
set_option maxRecDepth 100000 in
theorem xw246 : (Jvm.Cond.lays "LintDesk$Parser" "LintDesk$Parser" "at" "I") ∈ xWs := xWs_of (lw_T (i := 246) rfl) rfl
set_option maxRecDepth 100000 in
theorem xw248 : (Jvm.Cond.lays "LintDesk$Parser" "LintDesk$Parser" "scope" "I") ∈ xWs := xWs_of (lw_T (i := 248) rfl) rfl
set_option maxRecDepth 100000 in
theorem xw251 : (Jvm.Cond.classLink "LintDesk" (35 : Nat) "LintDesk$Reading") ∈ xWs := xWs_of (lw_T (i := 251) rfl) rfl
set_option maxRecDepth 100000 in
theorem xw252 : (Jvm.Cond.instantiable "LintDesk$Reading" (7 : Nat)) ∈ xWs := xWs_of (lw_T (i := 252) rfl) rfl
set_option maxRecDepth 100000 in
theorem xw253 : (Jvm.Cond.methodLink "LintDesk" (245 : Nat) ({ cls := "LintDesk$Reading", name := "<init>", desc := "(LLintDesk$Letters;LLintDesk$Tokens;LLintDesk$Scopes;LLintDesk$Things;LLintDesk$Marks;LLintDesk$Binder;LLintDesk$Parser;)V" } : Jvm.MethodName)) ∈ xWs := xWs_of (lw_T (i := 253) rfl) rfl
set_option maxRecDepth 100000 in
theorem xw254 : (Jvm.Cond.instanceMethod ({ cls := "LintDesk$Reading", name := "<init>", desc := "(LLintDesk$Letters;LLintDesk$Tokens;LLintDesk$Scopes;LLintDesk$Things;LLintDesk$Marks;LLintDesk$Binder;LLintDesk$Parser;)V" } : Jvm.MethodName)) ∈ xWs := xWs_of (lw_T (i := 254) rfl) rfl
set_option maxRecDepth 100000 in
theorem xw255 : (Jvm.Cond.code ({ cls := "LintDesk$Reading", name := "<init>", desc := "(LLintDesk$Letters;LLintDesk$Tokens;LLintDesk$Scopes;LLintDesk$Things;LLintDesk$Marks;LLintDesk$Binder;LLintDesk$Parser;)V" } : Jvm.MethodName) prog_7_method_1_code (8 : Nat) (Option.none : Option Jvm.ClassFile.FieldType)) ∈ xWs := xWs_of (lw_T (i := 255) rfl) rfl
set_option maxRecDepth 100000 in
theorem xw256 : (Jvm.Cond.methodLink "LintDesk$Reading" (1 : Nat) ({ cls := "java/lang/Object", name := "<init>", desc := "()V" } : Jvm.MethodName)) ∈ xWs := xWs_of (lw_T (i := 256) rfl) rfl
set_option maxRecDepth 100000 in
theorem xw257 : (Jvm.Cond.fieldLink "LintDesk$Reading" (7 : Nat) "LintDesk$Reading" "letters" "LLintDesk$Letters;") ∈ xWs := xWs_of (lw_T (i := 257) rfl) rfl
set_option maxRecDepth 100000 in
theorem xw259 : (Jvm.Cond.fieldLink "LintDesk$Reading" (13 : Nat) "LintDesk$Reading" "tokens" "LLintDesk$Tokens;") ∈ xWs := xWs_of (lw_T (i := 259) rfl) rfl
set_option maxRecDepth 100000 in
theorem xw262 : (Jvm.Cond.fieldLink "LintDesk$Reading" (17 : Nat) "LintDesk$Reading" "scopes" "LLintDesk$Scopes;") ∈ xWs := xWs_of (lw_T (i := 262) rfl) rfl
set_option maxRecDepth 100000 in
theorem xw264 : (Jvm.Cond.fieldLink "LintDesk$Reading" (21 : Nat) "LintDesk$Reading" "things" "LLintDesk$Things;") ∈ xWs := xWs_of (lw_T (i := 264) rfl) rfl
set_option maxRecDepth 100000 in
theorem xw266 : (Jvm.Cond.fieldLink "LintDesk$Reading" (25 : Nat) "LintDesk$Reading" "marks" "LLintDesk$Marks;") ∈ xWs := xWs_of (lw_T (i := 266) rfl) rfl
set_option maxRecDepth 100000 in
theorem xw268 : (Jvm.Cond.fieldLink "LintDesk$Reading" (29 : Nat) "LintDesk$Reading" "binder" "LLintDesk$Binder;") ∈ xWs := xWs_of (lw_T (i := 268) rfl) rfl
set_option maxRecDepth 100000 in
theorem xw270 : (Jvm.Cond.fieldLink "LintDesk$Reading" (33 : Nat) "LintDesk$Reading" "parser" "LLintDesk$Parser;") ∈ xWs := xWs_of (lw_T (i := 270) rfl) rfl
set_option maxRecDepth 100000 in
theorem xw271 : (Jvm.Cond.laysFinal "LintDesk$Reading" "LintDesk$Reading" "letters" "LLintDesk$Letters;") ∈ xWs := xWs_of (lw_T (i := 271) rfl) rfl
set_option maxRecDepth 100000 in
theorem xw273 : (Jvm.Cond.laysFinal "LintDesk$Reading" "LintDesk$Reading" "tokens" "LLintDesk$Tokens;") ∈ xWs := xWs_of (lw_T (i := 273) rfl) rfl
set_option maxRecDepth 100000 in
theorem xw275 : (Jvm.Cond.laysFinal "LintDesk$Reading" "LintDesk$Reading" "scopes" "LLintDesk$Scopes;") ∈ xWs := xWs_of (lw_T (i := 275) rfl) rfl
set_option maxRecDepth 100000 in
theorem xw277 : (Jvm.Cond.laysFinal "LintDesk$Reading" "LintDesk$Reading" "things" "LLintDesk$Things;") ∈ xWs := xWs_of (lw_T (i := 277) rfl) rfl
set_option maxRecDepth 100000 in
theorem xw279 : (Jvm.Cond.laysFinal "LintDesk$Reading" "LintDesk$Reading" "marks" "LLintDesk$Marks;") ∈ xWs := xWs_of (lw_T (i := 279) rfl) rfl
set_option maxRecDepth 100000 in
theorem xw281 : (Jvm.Cond.laysFinal "LintDesk$Reading" "LintDesk$Reading" "binder" "LLintDesk$Binder;") ∈ xWs := xWs_of (lw_T (i := 281) rfl) rfl
set_option maxRecDepth 100000 in
theorem xw283 : (Jvm.Cond.laysFinal "LintDesk$Reading" "LintDesk$Reading" "parser" "LLintDesk$Parser;") ∈ xWs := xWs_of (lw_T (i := 283) rfl) rfl
set_option maxRecDepth 100000 in
theorem xw286 : (Jvm.Cond.methodLink "LintDesk" (34 : Nat) ({ cls := "LintDesk$Reading", name := "study", desc := "()I" } : Jvm.MethodName)) ∈ xWs := xWs_of (lw_T (i := 286) rfl) rfl
set_option maxRecDepth 100000 in
theorem xw287 : (Jvm.Cond.instanceMethod ({ cls := "LintDesk$Reading", name := "study", desc := "()I" } : Jvm.MethodName)) ∈ xWs := xWs_of (lw_T (i := 287) rfl) rfl
set_option maxRecDepth 100000 in
theorem xw288 : (Jvm.Cond.selects "LintDesk$Reading" ({ cls := "LintDesk$Reading", name := "study", desc := "()I" } : Jvm.MethodName) ({ cls := "LintDesk$Reading", name := "study", desc := "()I" } : Jvm.MethodName)) ∈ xWs := xWs_of (lw_T (i := 288) rfl) rfl
set_option maxRecDepth 100000 in
theorem xw289 : (Jvm.Cond.code ({ cls := "LintDesk$Reading", name := "study", desc := "()I" } : Jvm.MethodName) prog_7_method_2_code (2 : Nat) (Option.some Jvm.ClassFile.FieldType.int)) ∈ xWs := xWs_of (lw_T (i := 289) rfl) rfl
set_option maxRecDepth 100000 in
theorem xw290 : (Jvm.Cond.methodLink "LintDesk$Reading" (37 : Nat) ({ cls := "LintDesk$Tokens", name := "scan", desc := "()V" } : Jvm.MethodName)) ∈ xWs := xWs_of (lw_T (i := 290) rfl) rfl
set_option maxRecDepth 100000 in
theorem xw291 : (Jvm.Cond.instanceMethod ({ cls := "LintDesk$Tokens", name := "scan", desc := "()V" } : Jvm.MethodName)) ∈ xWs := xWs_of (lw_T (i := 291) rfl) rfl
set_option maxRecDepth 100000 in
theorem xw292 : (Jvm.Cond.selects "LintDesk$Tokens" ({ cls := "LintDesk$Tokens", name := "scan", desc := "()V" } : Jvm.MethodName) ({ cls := "LintDesk$Tokens", name := "scan", desc := "()V" } : Jvm.MethodName)) ∈ xWs := xWs_of (lw_T (i := 292) rfl) rfl
set_option maxRecDepth 100000 in
theorem xw293 : (Jvm.Cond.code ({ cls := "LintDesk$Tokens", name := "scan", desc := "()V" } : Jvm.MethodName) prog_12_method_2_code (3 : Nat) (Option.none : Option Jvm.ClassFile.FieldType)) ∈ xWs := xWs_of (lw_T (i := 293) rfl) rfl
set_option maxRecDepth 100000 in
theorem xw294 : (Jvm.Cond.methodLink "LintDesk$Tokens" (39 : Nat) ({ cls := "LintDesk$Letters", name := "behindBlanks", desc := "(I)I" } : Jvm.MethodName)) ∈ xWs := xWs_of (lw_T (i := 294) rfl) rfl
set_option maxRecDepth 100000 in
theorem xw295 : (Jvm.Cond.instanceMethod ({ cls := "LintDesk$Letters", name := "behindBlanks", desc := "(I)I" } : Jvm.MethodName)) ∈ xWs := xWs_of (lw_T (i := 295) rfl) rfl
set_option maxRecDepth 100000 in
theorem xw296 : (Jvm.Cond.selects "LintDesk$Letters" ({ cls := "LintDesk$Letters", name := "behindBlanks", desc := "(I)I" } : Jvm.MethodName) ({ cls := "LintDesk$Letters", name := "behindBlanks", desc := "(I)I" } : Jvm.MethodName)) ∈ xWs := xWs_of (lw_T (i := 296) rfl) rfl
set_option maxRecDepth 100000 in
theorem xw297 : (Jvm.Cond.code ({ cls := "LintDesk$Letters", name := "behindBlanks", desc := "(I)I" } : Jvm.MethodName) prog_4_method_7_code (3 : Nat) (Option.some Jvm.ClassFile.FieldType.int)) ∈ xWs := xWs_of (lw_T (i := 297) rfl) rfl
set_option maxRecDepth 100000 in
theorem xw298 : (Jvm.Cond.methodLink "LintDesk$Letters" (19 : Nat) ({ cls := "LintDesk$Letters", name := "at", desc := "(I)C" } : Jvm.MethodName)) ∈ xWs := xWs_of (lw_T (i := 298) rfl) rfl
set_option maxRecDepth 100000 in
theorem xw299 : (Jvm.Cond.instanceMethod ({ cls := "LintDesk$Letters", name := "at", desc := "(I)C" } : Jvm.MethodName)) ∈ xWs := xWs_of (lw_T (i := 299) rfl) rfl
set_option maxRecDepth 100000 in
theorem xw300 : (Jvm.Cond.selects "LintDesk$Letters" ({ cls := "LintDesk$Letters", name := "at", desc := "(I)C" } : Jvm.MethodName) ({ cls := "LintDesk$Letters", name := "at", desc := "(I)C" } : Jvm.MethodName)) ∈ xWs := xWs_of (lw_T (i := 300) rfl) rfl
set_option maxRecDepth 100000 in
theorem xw301 : (Jvm.Cond.code ({ cls := "LintDesk$Letters", name := "at", desc := "(I)C" } : Jvm.MethodName) prog_4_method_2_code (2 : Nat) (Option.some Jvm.ClassFile.FieldType.char)) ∈ xWs := xWs_of (lw_T (i := 301) rfl) rfl
set_option maxRecDepth 100000 in
theorem xw303 : (Jvm.Cond.static ({ cls := "LintDesk", name := "isBlank", desc := "(I)Z" } : Jvm.MethodName)) ∈ xWs := xWs_of (lw_T (i := 303) rfl) rfl
set_option maxRecDepth 100000 in
theorem xw304 : (Jvm.Cond.code ({ cls := "LintDesk", name := "isBlank", desc := "(I)Z" } : Jvm.MethodName) prog_1_method_27_code (1 : Nat) (Option.some Jvm.ClassFile.FieldType.boolean)) ∈ xWs := xWs_of (lw_T (i := 304) rfl) rfl
set_option maxRecDepth 100000 in
theorem xw305 : (Jvm.Cond.methodLink "LintDesk$Tokens" (45 : Nat) ({ cls := "LintDesk$Tokens", name := "scanOne", desc := "(I)V" } : Jvm.MethodName)) ∈ xWs := xWs_of (lw_T (i := 305) rfl) rfl
set_option maxRecDepth 100000 in
theorem xw307 : (Jvm.Cond.instanceMethod ({ cls := "LintDesk$Tokens", name := "scanOne", desc := "(I)V" } : Jvm.MethodName)) ∈ xWs := xWs_of (lw_T (i := 307) rfl) rfl
set_option maxRecDepth 100000 in
theorem xw308 : (Jvm.Cond.code ({ cls := "LintDesk$Tokens", name := "scanOne", desc := "(I)V" } : Jvm.MethodName) prog_12_method_3_code (4 : Nat) (Option.none : Option Jvm.ClassFile.FieldType)) ∈ xWs := xWs_of (lw_T (i := 308) rfl) rfl
set_option maxRecDepth 100000 in
theorem xw309 : (Jvm.Cond.methodLink "LintDesk$Tokens" (65 : Nat) ({ cls := "LintDesk$Letters", name := "at", desc := "(I)C" } : Jvm.MethodName)) ∈ xWs := xWs_of (lw_T (i := 309) rfl) rfl
set_option maxRecDepth 100000 in
theorem xw310 : (Jvm.Cond.fieldLink "LintDesk$Tokens" (58 : Nat) "LintDesk$Token" "FINISH" "LLintDesk$Token;") ∈ xWs := xWs_of (lw_T (i := 310) rfl) rfl
set_option maxRecDepth 100000 in
theorem xw312 : (Jvm.Cond.methodLink "LintDesk$Tokens" (61 : Nat) ({ cls := "LintDesk$Tokens", name := "put", desc := "(LLintDesk$Token;II)V" } : Jvm.MethodName)) ∈ xWs := xWs_of (lw_T (i := 312) rfl) rfl
set_option maxRecDepth 100000 in
theorem xw314 : (Jvm.Cond.instanceMethod ({ cls := "LintDesk$Tokens", name := "put", desc := "(LLintDesk$Token;II)V" } : Jvm.MethodName)) ∈ xWs := xWs_of (lw_T (i := 314) rfl) rfl
set_option maxRecDepth 100000 in
theorem xw315 : (Jvm.Cond.code ({ cls := "LintDesk$Tokens", name := "put", desc := "(LLintDesk$Token;II)V" } : Jvm.MethodName) prog_12_method_6_code (4 : Nat) (Option.none : Option Jvm.ClassFile.FieldType)) ∈ xWs := xWs_of (lw_T (i := 315) rfl) rfl
set_option maxRecDepth 100000 in
theorem xw317 : (Jvm.Cond.static ({ cls := "LintDesk", name := "isSmall", desc := "(I)Z" } : Jvm.MethodName)) ∈ xWs := xWs_of (lw_T (i := 317) rfl) rfl
set_option maxRecDepth 100000 in
theorem xw318 : (Jvm.Cond.code ({ cls := "LintDesk", name := "isSmall", desc := "(I)Z" } : Jvm.MethodName) prog_1_method_25_code (1 : Nat) (Option.some Jvm.ClassFile.FieldType.boolean)) ∈ xWs := xWs_of (lw_T (i := 318) rfl) rfl
set_option maxRecDepth 100000 in
theorem xw319 : (Jvm.Cond.methodLink "LintDesk$Tokens" (73 : Nat) ({ cls := "LintDesk$Letters", name := "behindWord", desc := "(I)I" } : Jvm.MethodName)) ∈ xWs := xWs_of (lw_T (i := 319) rfl) rfl
set_option maxRecDepth 100000 in
theorem xw320 : (Jvm.Cond.instanceMethod ({ cls := "LintDesk$Letters", name := "behindWord", desc := "(I)I" } : Jvm.MethodName)) ∈ xWs := xWs_of (lw_T (i := 320) rfl) rfl
set_option maxRecDepth 100000 in
theorem xw321 : (Jvm.Cond.selects "LintDesk$Letters" ({ cls := "LintDesk$Letters", name := "behindWord", desc := "(I)I" } : Jvm.MethodName) ({ cls := "LintDesk$Letters", name := "behindWord", desc := "(I)I" } : Jvm.MethodName)) ∈ xWs := xWs_of (lw_T (i := 321) rfl) rfl
set_option maxRecDepth 100000 in
theorem xw322 : (Jvm.Cond.code ({ cls := "LintDesk$Letters", name := "behindWord", desc := "(I)I" } : Jvm.MethodName) prog_4_method_8_code (3 : Nat) (Option.some Jvm.ClassFile.FieldType.int)) ∈ xWs := xWs_of (lw_T (i := 322) rfl) rfl
set_option maxRecDepth 100000 in
theorem xw325 : (Jvm.Cond.static ({ cls := "LintDesk", name := "isDigit", desc := "(I)Z" } : Jvm.MethodName)) ∈ xWs := xWs_of (lw_T (i := 325) rfl) rfl
set_option maxRecDepth 100000 in
theorem xw326 : (Jvm.Cond.code ({ cls := "LintDesk", name := "isDigit", desc := "(I)Z" } : Jvm.MethodName) prog_1_method_26_code (1 : Nat) (Option.some Jvm.ClassFile.FieldType.boolean)) ∈ xWs := xWs_of (lw_T (i := 326) rfl) rfl
set_option maxRecDepth 100000 in
theorem xw327 : (Jvm.Cond.methodLink "LintDesk$Tokens" (76 : Nat) ({ cls := "LintDesk$Letters", name := "octets", desc := "(II)J" } : Jvm.MethodName)) ∈ xWs := xWs_of (lw_T (i := 327) rfl) rfl
set_option maxRecDepth 100000 in
theorem xw328 : (Jvm.Cond.instanceMethod ({ cls := "LintDesk$Letters", name := "octets", desc := "(II)J" } : Jvm.MethodName)) ∈ xWs := xWs_of (lw_T (i := 328) rfl) rfl
set_option maxRecDepth 100000 in
theorem xw329 : (Jvm.Cond.selects "LintDesk$Letters" ({ cls := "LintDesk$Letters", name := "octets", desc := "(II)J" } : Jvm.MethodName) ({ cls := "LintDesk$Letters", name := "octets", desc := "(II)J" } : Jvm.MethodName)) ∈ xWs := xWs_of (lw_T (i := 329) rfl) rfl
set_option maxRecDepth 100000 in
theorem xw330 : (Jvm.Cond.code ({ cls := "LintDesk$Letters", name := "octets", desc := "(II)J" } : Jvm.MethodName) prog_4_method_13_code (6 : Nat) (Option.some Jvm.ClassFile.FieldType.long)) ∈ xWs := xWs_of (lw_T (i := 330) rfl) rfl
set_option maxRecDepth 100000 in
theorem xw332 : (Jvm.Cond.static ({ cls := "LintDesk", name := "keywordOf", desc := "(J)LLintDesk$Token;" } : Jvm.MethodName)) ∈ xWs := xWs_of (lw_T (i := 332) rfl) rfl
set_option maxRecDepth 100000 in
theorem xw333 : (Jvm.Cond.code ({ cls := "LintDesk", name := "keywordOf", desc := "(J)LLintDesk$Token;" } : Jvm.MethodName) prog_1_method_28_code (3 : Nat) (Option.some (Jvm.ClassFile.FieldType.object "LintDesk$Token"))) ∈ xWs := xWs_of (lw_T (i := 333) rfl) rfl
set_option maxRecDepth 100000 in
theorem xw334 : (Jvm.Cond.fieldLink "LintDesk" (285 : Nat) "LintDesk" "TOKENS" "[LLintDesk$Token;") ∈ xWs := xWs_of (lw_T (i := 334) rfl) rfl
set_option maxRecDepth 100000 in
theorem xw336 : (Jvm.Cond.fieldLink "LintDesk" (115 : Nat) "LintDesk$Token" "NAME" "LLintDesk$Token;") ∈ xWs := xWs_of (lw_T (i := 336) rfl) rfl
set_option maxRecDepth 100000 in
theorem xw338 : (Jvm.Cond.methodLink "LintDesk$Tokens" (83 : Nat) ({ cls := "LintDesk$Tokens", name := "noteWord", desc := "()V" } : Jvm.MethodName)) ∈ xWs := xWs_of (lw_T (i := 338) rfl) rfl
set_option maxRecDepth 100000 in
theorem xw340 : (Jvm.Cond.instanceMethod ({ cls := "LintDesk$Tokens", name := "noteWord", desc := "()V" } : Jvm.MethodName)) ∈ xWs := xWs_of (lw_T (i := 340) rfl) rfl
set_option maxRecDepth 100000 in
theorem xw341 : (Jvm.Cond.code ({ cls := "LintDesk$Tokens", name := "noteWord", desc := "()V" } : Jvm.MethodName) prog_12_method_7_code (3 : Nat) (Option.none : Option Jvm.ClassFile.FieldType)) ∈ xWs := xWs_of (lw_T (i := 341) rfl) rfl
set_option maxRecDepth 100000 in
theorem xw342 : (Jvm.Cond.methodLink "LintDesk$Tokens" (126 : Nat) ({ cls := "LintDesk$Letters", name := "samePart", desc := "(III)Z" } : Jvm.MethodName)) ∈ xWs := xWs_of (lw_T (i := 342) rfl) rfl
set_option maxRecDepth 100000 in
theorem xw343 : (Jvm.Cond.instanceMethod ({ cls := "LintDesk$Letters", name := "samePart", desc := "(III)Z" } : Jvm.MethodName)) ∈ xWs := xWs_of (lw_T (i := 343) rfl) rfl
set_option maxRecDepth 100000 in
theorem xw344 : (Jvm.Cond.selects "LintDesk$Letters" ({ cls := "LintDesk$Letters", name := "samePart", desc := "(III)Z" } : Jvm.MethodName) ({ cls := "LintDesk$Letters", name := "samePart", desc := "(III)Z" } : Jvm.MethodName)) ∈ xWs := xWs_of (lw_T (i := 344) rfl) rfl
set_option maxRecDepth 100000 in
theorem xw345 : (Jvm.Cond.code ({ cls := "LintDesk$Letters", name := "samePart", desc := "(III)Z" } : Jvm.MethodName) prog_4_method_12_code (5 : Nat) (Option.some Jvm.ClassFile.FieldType.boolean)) ∈ xWs := xWs_of (lw_T (i := 345) rfl) rfl
set_option maxRecDepth 100000 in
theorem xw347 : (Jvm.Cond.fieldLink "LintDesk$Tokens" (89 : Nat) "LintDesk$Token" "NUMBER" "LLintDesk$Token;") ∈ xWs := xWs_of (lw_T (i := 347) rfl) rfl
set_option maxRecDepth 100000 in
theorem xw349 : (Jvm.Cond.methodLink "LintDesk$Tokens" (92 : Nat) ({ cls := "LintDesk$Letters", name := "behindNumber", desc := "(I)I" } : Jvm.MethodName)) ∈ xWs := xWs_of (lw_T (i := 349) rfl) rfl
set_option maxRecDepth 100000 in
theorem xw350 : (Jvm.Cond.instanceMethod ({ cls := "LintDesk$Letters", name := "behindNumber", desc := "(I)I" } : Jvm.MethodName)) ∈ xWs := xWs_of (lw_T (i := 350) rfl) rfl
set_option maxRecDepth 100000 in
theorem xw351 : (Jvm.Cond.selects "LintDesk$Letters" ({ cls := "LintDesk$Letters", name := "behindNumber", desc := "(I)I" } : Jvm.MethodName) ({ cls := "LintDesk$Letters", name := "behindNumber", desc := "(I)I" } : Jvm.MethodName)) ∈ xWs := xWs_of (lw_T (i := 351) rfl) rfl
set_option maxRecDepth 100000 in
theorem xw352 : (Jvm.Cond.code ({ cls := "LintDesk$Letters", name := "behindNumber", desc := "(I)I" } : Jvm.MethodName) prog_4_method_9_code (3 : Nat) (Option.some Jvm.ClassFile.FieldType.int)) ∈ xWs := xWs_of (lw_T (i := 352) rfl) rfl
set_option maxRecDepth 100000 in
theorem xw353 : (Jvm.Cond.methodLink "LintDesk$Tokens" (95 : Nat) ({ cls := "LintDesk$Letters", name := "behindText", desc := "(I)I" } : Jvm.MethodName)) ∈ xWs := xWs_of (lw_T (i := 353) rfl) rfl
set_option maxRecDepth 100000 in
theorem xw354 : (Jvm.Cond.instanceMethod ({ cls := "LintDesk$Letters", name := "behindText", desc := "(I)I" } : Jvm.MethodName)) ∈ xWs := xWs_of (lw_T (i := 354) rfl) rfl
set_option maxRecDepth 100000 in
theorem xw355 : (Jvm.Cond.selects "LintDesk$Letters" ({ cls := "LintDesk$Letters", name := "behindText", desc := "(I)I" } : Jvm.MethodName) ({ cls := "LintDesk$Letters", name := "behindText", desc := "(I)I" } : Jvm.MethodName)) ∈ xWs := xWs_of (lw_T (i := 355) rfl) rfl
set_option maxRecDepth 100000 in
theorem xw356 : (Jvm.Cond.code ({ cls := "LintDesk$Letters", name := "behindText", desc := "(I)I" } : Jvm.MethodName) prog_4_method_10_code (3 : Nat) (Option.some Jvm.ClassFile.FieldType.int)) ∈ xWs := xWs_of (lw_T (i := 356) rfl) rfl
set_option maxRecDepth 100000 in
theorem xw357 : (Jvm.Cond.fieldLink "LintDesk$Tokens" (98 : Nat) "LintDesk$Token" "TEXT" "LLintDesk$Token;") ∈ xWs := xWs_of (lw_T (i := 357) rfl) rfl
set_option maxRecDepth 100000 in
theorem xw359 : (Jvm.Cond.fieldLink "LintDesk$Tokens" (54 : Nat) "LintDesk$Token" "BAD" "LLintDesk$Token;") ∈ xWs := xWs_of (lw_T (i := 359) rfl) rfl
set_option maxRecDepth 100000 in
theorem xw361 : (Jvm.Cond.methodLink "LintDesk$Tokens" (101 : Nat) ({ cls := "LintDesk$Tokens", name := "signAt", desc := "(I)LLintDesk$Token;" } : Jvm.MethodName)) ∈ xWs := xWs_of (lw_T (i := 361) rfl) rfl
set_option maxRecDepth 100000 in
theorem xw363 : (Jvm.Cond.instanceMethod ({ cls := "LintDesk$Tokens", name := "signAt", desc := "(I)LLintDesk$Token;" } : Jvm.MethodName)) ∈ xWs := xWs_of (lw_T (i := 363) rfl) rfl
set_option maxRecDepth 100000 in
theorem xw364 : (Jvm.Cond.code ({ cls := "LintDesk$Tokens", name := "signAt", desc := "(I)LLintDesk$Token;" } : Jvm.MethodName) prog_12_method_4_code (3 : Nat) (Option.some (Jvm.ClassFile.FieldType.object "LintDesk$Token"))) ∈ xWs := xWs_of (lw_T (i := 364) rfl) rfl
set_option maxRecDepth 100000 in
theorem xw366 : (Jvm.Cond.methodLink "LintDesk$Tokens" (122 : Nat) ({ cls := "LintDesk$Letters", name := "holds", desc := "(Ljava/lang/String;I)Z" } : Jvm.MethodName)) ∈ xWs := xWs_of (lw_T (i := 366) rfl) rfl
set_option maxRecDepth 100000 in
theorem xw367 : (Jvm.Cond.instanceMethod ({ cls := "LintDesk$Letters", name := "holds", desc := "(Ljava/lang/String;I)Z" } : Jvm.MethodName)) ∈ xWs := xWs_of (lw_T (i := 367) rfl) rfl
set_option maxRecDepth 100000 in
theorem xw368 : (Jvm.Cond.selects "LintDesk$Letters" ({ cls := "LintDesk$Letters", name := "holds", desc := "(Ljava/lang/String;I)Z" } : Jvm.MethodName) ({ cls := "LintDesk$Letters", name := "holds", desc := "(Ljava/lang/String;I)Z" } : Jvm.MethodName)) ∈ xWs := xWs_of (lw_T (i := 368) rfl) rfl
set_option maxRecDepth 100000 in
theorem xw369 : (Jvm.Cond.code ({ cls := "LintDesk$Letters", name := "holds", desc := "(Ljava/lang/String;I)Z" } : Jvm.MethodName) prog_4_method_11_code (4 : Nat) (Option.some Jvm.ClassFile.FieldType.boolean)) ∈ xWs := xWs_of (lw_T (i := 369) rfl) rfl
set_option maxRecDepth 100000 in
theorem xw370 : (Jvm.Cond.methodLink "LintDesk$Letters" (27 : Nat) ({ cls := "java/lang/String", name := "length", desc := "()I" } : Jvm.MethodName)) ∈ xWs := xWs_of (lw_T (i := 370) rfl) rfl
set_option maxRecDepth 100000 in
theorem xw371 : (Jvm.Cond.instanceMethod ({ cls := "java/lang/String", name := "length", desc := "()I" } : Jvm.MethodName)) ∈ xWs := xWs_of (lw_T (i := 371) rfl) rfl
set_option maxRecDepth 100000 in
theorem xw372 : (Jvm.Cond.selects "java/lang/String" ({ cls := "java/lang/String", name := "length", desc := "()I" } : Jvm.MethodName) ({ cls := "java/lang/String", name := "length", desc := "()I" } : Jvm.MethodName)) ∈ xWs := xWs_of (lw_T (i := 372) rfl) rfl
set_option maxRecDepth 100000 in
theorem xw373 : (Jvm.Cond.code ({ cls := "java/lang/String", name := "length", desc := "()I" } : Jvm.MethodName) prog_22_method_54_code (1 : Nat) (Option.some Jvm.ClassFile.FieldType.int)) ∈ xWs := xWs_of (lw_T (i := 373) rfl) rfl
set_option maxRecDepth 100000 in
theorem xw374 : (Jvm.Cond.methodLink "java/lang/String" (335 : Nat) ({ cls := "java/lang/String", name := "coder", desc := "()B" } : Jvm.MethodName)) ∈ xWs := xWs_of (lw_T (i := 374) rfl) rfl
set_option maxRecDepth 100000 in
theorem xw375 : (Jvm.Cond.instanceMethod ({ cls := "java/lang/String", name := "coder", desc := "()B" } : Jvm.MethodName)) ∈ xWs := xWs_of (lw_T (i := 375) rfl) rfl
set_option maxRecDepth 100000 in
theorem xw376 : (Jvm.Cond.selects "java/lang/String" ({ cls := "java/lang/String", name := "coder", desc := "()B" } : Jvm.MethodName) ({ cls := "java/lang/String", name := "coder", desc := "()B" } : Jvm.MethodName)) ∈ xWs := xWs_of (lw_T (i := 376) rfl) rfl
set_option maxRecDepth 100000 in
theorem xw377 : (Jvm.Cond.code ({ cls := "java/lang/String", name := "coder", desc := "()B" } : Jvm.MethodName) prog_22_method_152_code (1 : Nat) (Option.some Jvm.ClassFile.FieldType.byte)) ∈ xWs := xWs_of (lw_T (i := 377) rfl) rfl
set_option maxRecDepth 100000 in
theorem xw378 : (Jvm.Cond.fieldLink "java/lang/String" (38 : Nat) "java/lang/String" "COMPACT_STRINGS" "Z") ∈ xWs := xWs_of (lw_T (i := 378) rfl) rfl
set_option maxRecDepth 100000 in
theorem xw380 : (Jvm.Cond.methodLink "LintDesk$Letters" (33 : Nat) ({ cls := "java/lang/String", name := "charAt", desc := "(I)C" } : Jvm.MethodName)) ∈ xWs := xWs_of (lw_T (i := 380) rfl) rfl
set_option maxRecDepth 100000 in
theorem xw381 : (Jvm.Cond.instanceMethod ({ cls := "java/lang/String", name := "charAt", desc := "(I)C" } : Jvm.MethodName)) ∈ xWs := xWs_of (lw_T (i := 381) rfl) rfl
set_option maxRecDepth 100000 in
theorem xw382 : (Jvm.Cond.selects "java/lang/String" ({ cls := "java/lang/String", name := "charAt", desc := "(I)C" } : Jvm.MethodName) ({ cls := "java/lang/String", name := "charAt", desc := "(I)C" } : Jvm.MethodName)) ∈ xWs := xWs_of (lw_T (i := 382) rfl) rfl
set_option maxRecDepth 100000 in
theorem xw383 : (Jvm.Cond.code ({ cls := "java/lang/String", name := "charAt", desc := "(I)C" } : Jvm.MethodName) prog_22_method_56_code (2 : Nat) (Option.some Jvm.ClassFile.FieldType.char)) ∈ xWs := xWs_of (lw_T (i := 383) rfl) rfl
set_option maxRecDepth 100000 in
theorem xw384 : (Jvm.Cond.methodLink "java/lang/String" (492 : Nat) ({ cls := "java/lang/String", name := "isLatin1", desc := "()Z" } : Jvm.MethodName)) ∈ xWs := xWs_of (lw_T (i := 384) rfl) rfl
set_option maxRecDepth 100000 in
theorem xw385 : (Jvm.Cond.instanceMethod ({ cls := "java/lang/String", name := "isLatin1", desc := "()Z" } : Jvm.MethodName)) ∈ xWs := xWs_of (lw_T (i := 385) rfl) rfl
set_option maxRecDepth 100000 in
theorem xw386 : (Jvm.Cond.selects "java/lang/String" ({ cls := "java/lang/String", name := "isLatin1", desc := "()Z" } : Jvm.MethodName) ({ cls := "java/lang/String", name := "isLatin1", desc := "()Z" } : Jvm.MethodName)) ∈ xWs := xWs_of (lw_T (i := 386) rfl) rfl
set_option maxRecDepth 100000 in
theorem xw387 : (Jvm.Cond.code ({ cls := "java/lang/String", name := "isLatin1", desc := "()Z" } : Jvm.MethodName) prog_22_method_154_code (1 : Nat) (Option.some Jvm.ClassFile.FieldType.boolean)) ∈ xWs := xWs_of (lw_T (i := 387) rfl) rfl
set_option maxRecDepth 100000 in
theorem xw388 : (Jvm.Cond.methodLink "java/lang/String" (495 : Nat) ({ cls := "java/lang/StringLatin1", name := "charAt", desc := "([BI)C" } : Jvm.MethodName)) ∈ xWs := xWs_of (lw_T (i := 388) rfl) rfl
set_option maxRecDepth 100000 in
theorem xw389 : (Jvm.Cond.static ({ cls := "java/lang/StringLatin1", name := "charAt", desc := "([BI)C" } : Jvm.MethodName)) ∈ xWs := xWs_of (lw_T (i := 389) rfl) rfl
set_option maxRecDepth 100000 in
theorem xw390 : (Jvm.Cond.code ({ cls := "java/lang/StringLatin1", name := "charAt", desc := "([BI)C" } : Jvm.MethodName) prog_23_method_2_code (2 : Nat) (Option.some Jvm.ClassFile.FieldType.char)) ∈ xWs := xWs_of (lw_T (i := 390) rfl) rfl
set_option maxRecDepth 100000 in
theorem xw391 : (Jvm.Cond.methodLink "java/lang/StringLatin1" (9 : Nat) ({ cls := "java/lang/String", name := "checkIndex", desc := "(II)V" } : Jvm.MethodName)) ∈ xWs := xWs_of (lw_T (i := 391) rfl) rfl
set_option maxRecDepth 100000 in
theorem xw392 : (Jvm.Cond.static ({ cls := "java/lang/String", name := "checkIndex", desc := "(II)V" } : Jvm.MethodName)) ∈ xWs := xWs_of (lw_T (i := 392) rfl) rfl
set_option maxRecDepth 100000 in
theorem xw393 : (Jvm.Cond.code ({ cls := "java/lang/String", name := "checkIndex", desc := "(II)V" } : Jvm.MethodName) prog_22_method_155_code (2 : Nat) (Option.none : Option Jvm.ClassFile.FieldType)) ∈ xWs := xWs_of (lw_T (i := 393) rfl) rfl
set_option maxRecDepth 100000 in
theorem xw394 : (Jvm.Cond.fieldLink "java/lang/String" (1053 : Nat) "jdk/internal/util/Preconditions" "SIOOBE_FORMATTER" "Ljava/util/function/BiFunction;") ∈ xWs := xWs_of (lw_T (i := 394) rfl) rfl
set_option maxRecDepth 100000 in
theorem xw396 : (Jvm.Cond.methodLink "java/lang/String" (1059 : Nat) ({ cls := "jdk/internal/util/Preconditions", name := "checkIndex", desc := "(IILjava/util/function/BiFunction;)I" } : Jvm.MethodName)) ∈ xWs := xWs_of (lw_T (i := 396) rfl) rfl
set_option maxRecDepth 100000 in
theorem xw397 : (Jvm.Cond.static ({ cls := "jdk/internal/util/Preconditions", name := "checkIndex", desc := "(IILjava/util/function/BiFunction;)I" } : Jvm.MethodName)) ∈ xWs := xWs_of (lw_T (i := 397) rfl) rfl
set_option maxRecDepth 100000 in
theorem xw398 : (Jvm.Cond.code ({ cls := "jdk/internal/util/Preconditions", name := "checkIndex", desc := "(IILjava/util/function/BiFunction;)I" } : Jvm.MethodName) prog_26_method_11_code (3 : Nat) (Option.some Jvm.ClassFile.FieldType.int)) ∈ xWs := xWs_of (lw_T (i := 398) rfl) rfl
set_option maxRecDepth 100000 in
theorem xw399 : (Jvm.Cond.methodLink "java/lang/String" (498 : Nat) ({ cls := "java/lang/StringUTF16", name := "charAt", desc := "([BI)C" } : Jvm.MethodName)) ∈ xWs := xWs_of (lw_T (i := 399) rfl) rfl
set_option maxRecDepth 100000 in
theorem xw400 : (Jvm.Cond.static ({ cls := "java/lang/StringUTF16", name := "charAt", desc := "([BI)C" } : Jvm.MethodName)) ∈ xWs := xWs_of (lw_T (i := 400) rfl) rfl
set_option maxRecDepth 100000 in
theorem xw401 : (Jvm.Cond.code ({ cls := "java/lang/StringUTF16", name := "charAt", desc := "([BI)C" } : Jvm.MethodName) prog_24_method_83_code (2 : Nat) (Option.some Jvm.ClassFile.FieldType.char)) ∈ xWs := xWs_of (lw_T (i := 401) rfl) rfl
set_option maxRecDepth 100000 in
theorem xw402 : (Jvm.Cond.methodLink "java/lang/StringUTF16" (67 : Nat) ({ cls := "java/lang/StringUTF16", name := "checkIndex", desc := "(I[B)V" } : Jvm.MethodName)) ∈ xWs := xWs_of (lw_T (i := 402) rfl) rfl
set_option maxRecDepth 100000 in
theorem xw403 : (Jvm.Cond.static ({ cls := "java/lang/StringUTF16", name := "checkIndex", desc := "(I[B)V" } : Jvm.MethodName)) ∈ xWs := xWs_of (lw_T (i := 403) rfl) rfl
set_option maxRecDepth 100000 in
theorem xw404 : (Jvm.Cond.code ({ cls := "java/lang/StringUTF16", name := "checkIndex", desc := "(I[B)V" } : Jvm.MethodName) prog_24_method_91_code (2 : Nat) (Option.none : Option Jvm.ClassFile.FieldType)) ∈ xWs := xWs_of (lw_T (i := 404) rfl) rfl
set_option maxRecDepth 100000 in
theorem xw405 : (Jvm.Cond.methodLink "java/lang/StringUTF16" (48 : Nat) ({ cls := "java/lang/StringUTF16", name := "length", desc := "([B)I" } : Jvm.MethodName)) ∈ xWs := xWs_of (lw_T (i := 405) rfl) rfl
set_option maxRecDepth 100000 in
theorem xw406 : (Jvm.Cond.static ({ cls := "java/lang/StringUTF16", name := "length", desc := "([B)I" } : Jvm.MethodName)) ∈ xWs := xWs_of (lw_T (i := 406) rfl) rfl
set_option maxRecDepth 100000 in
theorem xw407 : (Jvm.Cond.code ({ cls := "java/lang/StringUTF16", name := "length", desc := "([B)I" } : Jvm.MethodName) prog_24_method_6_code (1 : Nat) (Option.some Jvm.ClassFile.FieldType.int)) ∈ xWs := xWs_of (lw_T (i := 407) rfl) rfl
set_option maxRecDepth 100000 in
theorem xw408 : (Jvm.Cond.methodLink "java/lang/StringUTF16" (414 : Nat) ({ cls := "java/lang/String", name := "checkIndex", desc := "(II)V" } : Jvm.MethodName)) ∈ xWs := xWs_of (lw_T (i := 408) rfl) rfl
set_option maxRecDepth 100000 in
theorem xw409 : (Jvm.Cond.methodLink "java/lang/StringUTF16" (71 : Nat) ({ cls := "java/lang/StringUTF16", name := "getChar", desc := "([BI)C" } : Jvm.MethodName)) ∈ xWs := xWs_of (lw_T (i := 409) rfl) rfl
set_option maxRecDepth 100000 in
theorem xw410 : (Jvm.Cond.static ({ cls := "java/lang/StringUTF16", name := "getChar", desc := "([BI)C" } : Jvm.MethodName)) ∈ xWs := xWs_of (lw_T (i := 410) rfl) rfl
set_option maxRecDepth 100000 in
theorem xw411 : (Jvm.Cond.code ({ cls := "java/lang/StringUTF16", name := "getChar", desc := "([BI)C" } : Jvm.MethodName) prog_24_method_5_code (2 : Nat) (Option.some Jvm.ClassFile.FieldType.char)) ∈ xWs := xWs_of (lw_T (i := 411) rfl) rfl
set_option maxRecDepth 100000 in
theorem xw412 : (Jvm.Cond.fieldLink "java/lang/StringUTF16" (44 : Nat) "java/lang/StringUTF16" "$assertionsDisabled" "Z") ∈ xWs := xWs_of (lw_T (i := 412) rfl) rfl
set_option maxRecDepth 100000 in
theorem xw414 : (Jvm.Cond.fieldLink "java/lang/StringUTF16" (59 : Nat) "java/lang/StringUTF16" "HI_BYTE_SHIFT" "I") ∈ xWs := xWs_of (lw_T (i := 414) rfl) rfl
set_option maxRecDepth 100000 in
theorem xw416 : (Jvm.Cond.fieldLink "java/lang/StringUTF16" (63 : Nat) "java/lang/StringUTF16" "LO_BYTE_SHIFT" "I") ∈ xWs := xWs_of (lw_T (i := 416) rfl) rfl
set_option maxRecDepth 100000 in
theorem xw418 : (Jvm.Cond.methodLink "LintDesk$Tokens" (109 : Nat) ({ cls := "java/lang/String", name := "length", desc := "()I" } : Jvm.MethodName)) ∈ xWs := xWs_of (lw_T (i := 418) rfl) rfl
set_option maxRecDepth 100000 in
theorem xw419 : (Jvm.Cond.methodLink "LintDesk$Tokens" (49 : Nat) ({ cls := "LintDesk$Tokens", name := "isClosing", desc := "(LLintDesk$Token;)Z" } : Jvm.MethodName)) ∈ xWs := xWs_of (lw_T (i := 419) rfl) rfl
set_option maxRecDepth 100000 in
theorem xw420 : (Jvm.Cond.static ({ cls := "LintDesk$Tokens", name := "isClosing", desc := "(LLintDesk$Token;)Z" } : Jvm.MethodName)) ∈ xWs := xWs_of (lw_T (i := 420) rfl) rfl
set_option maxRecDepth 100000 in
theorem xw421 : (Jvm.Cond.code ({ cls := "LintDesk$Tokens", name := "isClosing", desc := "(LLintDesk$Token;)Z" } : Jvm.MethodName) prog_12_method_5_code (1 : Nat) (Option.some Jvm.ClassFile.FieldType.boolean)) ∈ xWs := xWs_of (lw_T (i := 421) rfl) rfl
set_option maxRecDepth 100000 in
theorem xw422 : (Jvm.Cond.methodLink "LintDesk$Reading" (42 : Nat) ({ cls := "LintDesk$Parser", name := "program", desc := "()I" } : Jvm.MethodName)) ∈ xWs := xWs_of (lw_T (i := 422) rfl) rfl
set_option maxRecDepth 100000 in
theorem xw423 : (Jvm.Cond.instanceMethod ({ cls := "LintDesk$Parser", name := "program", desc := "()I" } : Jvm.MethodName)) ∈ xWs := xWs_of (lw_T (i := 423) rfl) rfl
set_option maxRecDepth 100000 in
theorem xw424 : (Jvm.Cond.selects "LintDesk$Parser" ({ cls := "LintDesk$Parser", name := "program", desc := "()I" } : Jvm.MethodName) ({ cls := "LintDesk$Parser", name := "program", desc := "()I" } : Jvm.MethodName)) ∈ xWs := xWs_of (lw_T (i := 424) rfl) rfl
set_option maxRecDepth 100000 in
theorem xw425 : (Jvm.Cond.code ({ cls := "LintDesk$Parser", name := "program", desc := "()I" } : Jvm.MethodName) prog_6_method_2_code (2 : Nat) (Option.some Jvm.ClassFile.FieldType.int)) ∈ xWs := xWs_of (lw_T (i := 425) rfl) rfl
set_option maxRecDepth 100000 in
theorem xw426 : (Jvm.Cond.methodLink "LintDesk$Parser" (27 : Nat) ({ cls := "LintDesk$Scopes", name := "clear", desc := "()V" } : Jvm.MethodName)) ∈ xWs := xWs_of (lw_T (i := 426) rfl) rfl
set_option maxRecDepth 100000 in
theorem xw427 : (Jvm.Cond.instanceMethod ({ cls := "LintDesk$Scopes", name := "clear", desc := "()V" } : Jvm.MethodName)) ∈ xWs := xWs_of (lw_T (i := 427) rfl) rfl
set_option maxRecDepth 100000 in
theorem xw428 : (Jvm.Cond.selects "LintDesk$Scopes" ({ cls := "LintDesk$Scopes", name := "clear", desc := "()V" } : Jvm.MethodName) ({ cls := "LintDesk$Scopes", name := "clear", desc := "()V" } : Jvm.MethodName)) ∈ xWs := xWs_of (lw_T (i := 428) rfl) rfl
set_option maxRecDepth 100000 in
theorem xw429 : (Jvm.Cond.code ({ cls := "LintDesk$Scopes", name := "clear", desc := "()V" } : Jvm.MethodName) prog_8_method_2_code (1 : Nat) (Option.none : Option Jvm.ClassFile.FieldType)) ∈ xWs := xWs_of (lw_T (i := 429) rfl) rfl
set_option maxRecDepth 100000 in
theorem xw430 : (Jvm.Cond.methodLink "LintDesk$Parser" (32 : Nat) ({ cls := "LintDesk$Marks", name := "clear", desc := "()V" } : Jvm.MethodName)) ∈ xWs := xWs_of (lw_T (i := 430) rfl) rfl
set_option maxRecDepth 100000 in
theorem xw431 : (Jvm.Cond.instanceMethod ({ cls := "LintDesk$Marks", name := "clear", desc := "()V" } : Jvm.MethodName)) ∈ xWs := xWs_of (lw_T (i := 431) rfl) rfl
set_option maxRecDepth 100000 in
theorem xw432 : (Jvm.Cond.selects "LintDesk$Marks" ({ cls := "LintDesk$Marks", name := "clear", desc := "()V" } : Jvm.MethodName) ({ cls := "LintDesk$Marks", name := "clear", desc := "()V" } : Jvm.MethodName)) ∈ xWs := xWs_of (lw_T (i := 432) rfl) rfl
set_option maxRecDepth 100000 in
theorem xw433 : (Jvm.Cond.code ({ cls := "LintDesk$Marks", name := "clear", desc := "()V" } : Jvm.MethodName) prog_5_method_2_code (2 : Nat) (Option.none : Option Jvm.ClassFile.FieldType)) ∈ xWs := xWs_of (lw_T (i := 433) rfl) rfl
set_option maxRecDepth 100000 in
theorem xw434 : (Jvm.Cond.methodLink "LintDesk$Parser" (35 : Nat) ({ cls := "LintDesk$Binder", name := "clear", desc := "()V" } : Jvm.MethodName)) ∈ xWs := xWs_of (lw_T (i := 434) rfl) rfl
set_option maxRecDepth 100000 in
theorem xw435 : (Jvm.Cond.instanceMethod ({ cls := "LintDesk$Binder", name := "clear", desc := "()V" } : Jvm.MethodName)) ∈ xWs := xWs_of (lw_T (i := 435) rfl) rfl
set_option maxRecDepth 100000 in
theorem xw436 : (Jvm.Cond.selects "LintDesk$Binder" ({ cls := "LintDesk$Binder", name := "clear", desc := "()V" } : Jvm.MethodName) ({ cls := "LintDesk$Binder", name := "clear", desc := "()V" } : Jvm.MethodName)) ∈ xWs := xWs_of (lw_T (i := 436) rfl) rfl
set_option maxRecDepth 100000 in
theorem xw437 : (Jvm.Cond.code ({ cls := "LintDesk$Binder", name := "clear", desc := "()V" } : Jvm.MethodName) prog_3_method_2_code (1 : Nat) (Option.none : Option Jvm.ClassFile.FieldType)) ∈ xWs := xWs_of (lw_T (i := 437) rfl) rfl
set_option maxRecDepth 100000 in
theorem xw438 : (Jvm.Cond.methodLink "LintDesk$Binder" (38 : Nat) ({ cls := "LintDesk$Things", name := "clear", desc := "()V" } : Jvm.MethodName)) ∈ xWs := xWs_of (lw_T (i := 438) rfl) rfl
set_option maxRecDepth 100000 in
theorem xw439 : (Jvm.Cond.instanceMethod ({ cls := "LintDesk$Things", name := "clear", desc := "()V" } : Jvm.MethodName)) ∈ xWs := xWs_of (lw_T (i := 439) rfl) rfl
set_option maxRecDepth 100000 in
theorem xw440 : (Jvm.Cond.selects "LintDesk$Things" ({ cls := "LintDesk$Things", name := "clear", desc := "()V" } : Jvm.MethodName) ({ cls := "LintDesk$Things", name := "clear", desc := "()V" } : Jvm.MethodName)) ∈ xWs := xWs_of (lw_T (i := 440) rfl) rfl
set_option maxRecDepth 100000 in
theorem xw441 : (Jvm.Cond.code ({ cls := "LintDesk$Things", name := "clear", desc := "()V" } : Jvm.MethodName) prog_10_method_2_code (1 : Nat) (Option.none : Option Jvm.ClassFile.FieldType)) ∈ xWs := xWs_of (lw_T (i := 441) rfl) rfl
set_option maxRecDepth 100000 in
theorem xw442 : (Jvm.Cond.methodLink "LintDesk$Parser" (45 : Nat) ({ cls := "LintDesk$Parser", name := "statements", desc := "(I)Z" } : Jvm.MethodName)) ∈ xWs := xWs_of (lw_T (i := 442) rfl) rfl
set_option maxRecDepth 100000 in
theorem xw444 : (Jvm.Cond.instanceMethod ({ cls := "LintDesk$Parser", name := "statements", desc := "(I)Z" } : Jvm.MethodName)) ∈ xWs := xWs_of (lw_T (i := 444) rfl) rfl
set_option maxRecDepth 100000 in
theorem xw445 : (Jvm.Cond.code ({ cls := "LintDesk$Parser", name := "statements", desc := "(I)Z" } : Jvm.MethodName) prog_6_method_5_code (5 : Nat) (Option.some Jvm.ClassFile.FieldType.boolean)) ∈ xWs := xWs_of (lw_T (i := 445) rfl) rfl
set_option maxRecDepth 100000 in
theorem xw446 : (Jvm.Cond.methodLink "LintDesk$Parser" (49 : Nat) ({ cls := "LintDesk$Parser", name := "next", desc := "()LLintDesk$Token;" } : Jvm.MethodName)) ∈ xWs := xWs_of (lw_T (i := 446) rfl) rfl
set_option maxRecDepth 100000 in
theorem xw448 : (Jvm.Cond.instanceMethod ({ cls := "LintDesk$Parser", name := "next", desc := "()LLintDesk$Token;" } : Jvm.MethodName)) ∈ xWs := xWs_of (lw_T (i := 448) rfl) rfl
set_option maxRecDepth 100000 in
theorem xw449 : (Jvm.Cond.code ({ cls := "LintDesk$Parser", name := "next", desc := "()LLintDesk$Token;" } : Jvm.MethodName) prog_6_method_3_code (1 : Nat) (Option.some (Jvm.ClassFile.FieldType.object "LintDesk$Token"))) ∈ xWs := xWs_of (lw_T (i := 449) rfl) rfl
set_option maxRecDepth 100000 in
theorem xw450 : (Jvm.Cond.methodLink "LintDesk$Parser" (65 : Nat) ({ cls := "LintDesk$Tokens", name := "kindOf", desc := "(I)LLintDesk$Token;" } : Jvm.MethodName)) ∈ xWs := xWs_of (lw_T (i := 450) rfl) rfl
set_option maxRecDepth 100000 in
theorem xw451 : (Jvm.Cond.instanceMethod ({ cls := "LintDesk$Tokens", name := "kindOf", desc := "(I)LLintDesk$Token;" } : Jvm.MethodName)) ∈ xWs := xWs_of (lw_T (i := 451) rfl) rfl
set_option maxRecDepth 100000 in
theorem xw452 : (Jvm.Cond.selects "LintDesk$Tokens" ({ cls := "LintDesk$Tokens", name := "kindOf", desc := "(I)LLintDesk$Token;" } : Jvm.MethodName) ({ cls := "LintDesk$Tokens", name := "kindOf", desc := "(I)LLintDesk$Token;" } : Jvm.MethodName)) ∈ xWs := xWs_of (lw_T (i := 452) rfl) rfl
set_option maxRecDepth 100000 in
theorem xw453 : (Jvm.Cond.code ({ cls := "LintDesk$Tokens", name := "kindOf", desc := "(I)LLintDesk$Token;" } : Jvm.MethodName) prog_12_method_9_code (2 : Nat) (Option.some (Jvm.ClassFile.FieldType.object "LintDesk$Token"))) ∈ xWs := xWs_of (lw_T (i := 453) rfl) rfl
set_option maxRecDepth 100000 in
theorem xw454 : (Jvm.Cond.fieldLink "LintDesk$Parser" (69 : Nat) "LintDesk$Token" "END" "LLintDesk$Token;") ∈ xWs := xWs_of (lw_T (i := 454) rfl) rfl
set_option maxRecDepth 100000 in
theorem xw456 : (Jvm.Cond.fieldLink "LintDesk$Parser" (53 : Nat) "LintDesk$Token" "FINISH" "LLintDesk$Token;") ∈ xWs := xWs_of (lw_T (i := 456) rfl) rfl
set_option maxRecDepth 100000 in
theorem xw457 : (Jvm.Cond.methodLink "LintDesk$Parser" (72 : Nat) ({ cls := "LintDesk$Tokens", name := "behindExcuses", desc := "(I)I" } : Jvm.MethodName)) ∈ xWs := xWs_of (lw_T (i := 457) rfl) rfl
set_option maxRecDepth 100000 in
theorem xw458 : (Jvm.Cond.instanceMethod ({ cls := "LintDesk$Tokens", name := "behindExcuses", desc := "(I)I" } : Jvm.MethodName)) ∈ xWs := xWs_of (lw_T (i := 458) rfl) rfl
set_option maxRecDepth 100000 in
theorem xw459 : (Jvm.Cond.selects "LintDesk$Tokens" ({ cls := "LintDesk$Tokens", name := "behindExcuses", desc := "(I)I" } : Jvm.MethodName) ({ cls := "LintDesk$Tokens", name := "behindExcuses", desc := "(I)I" } : Jvm.MethodName)) ∈ xWs := xWs_of (lw_T (i := 459) rfl) rfl
set_option maxRecDepth 100000 in
theorem xw460 : (Jvm.Cond.code ({ cls := "LintDesk$Tokens", name := "behindExcuses", desc := "(I)I" } : Jvm.MethodName) prog_12_method_15_code (3 : Nat) (Option.some Jvm.ClassFile.FieldType.int)) ∈ xWs := xWs_of (lw_T (i := 460) rfl) rfl
set_option maxRecDepth 100000 in
theorem xw461 : (Jvm.Cond.methodLink "LintDesk$Tokens" (133 : Nat) ({ cls := "LintDesk$Tokens", name := "kindOf", desc := "(I)LLintDesk$Token;" } : Jvm.MethodName)) ∈ xWs := xWs_of (lw_T (i := 461) rfl) rfl
set_option maxRecDepth 100000 in
theorem xw462 : (Jvm.Cond.fieldLink "LintDesk$Tokens" (142 : Nat) "LintDesk$Token" "AT" "LLintDesk$Token;") ∈ xWs := xWs_of (lw_T (i := 462) rfl) rfl
set_option maxRecDepth 100000 in
theorem xw464 : (Jvm.Cond.methodLink "LintDesk$Parser" (75 : Nat) ({ cls := "LintDesk$Marks", name := "add", desc := "(II)V" } : Jvm.MethodName)) ∈ xWs := xWs_of (lw_T (i := 464) rfl) rfl
set_option maxRecDepth 100000 in
theorem xw465 : (Jvm.Cond.instanceMethod ({ cls := "LintDesk$Marks", name := "add", desc := "(II)V" } : Jvm.MethodName)) ∈ xWs := xWs_of (lw_T (i := 465) rfl) rfl
set_option maxRecDepth 100000 in
theorem xw466 : (Jvm.Cond.selects "LintDesk$Marks" ({ cls := "LintDesk$Marks", name := "add", desc := "(II)V" } : Jvm.MethodName) ({ cls := "LintDesk$Marks", name := "add", desc := "(II)V" } : Jvm.MethodName)) ∈ xWs := xWs_of (lw_T (i := 466) rfl) rfl
set_option maxRecDepth 100000 in
theorem xw467 : (Jvm.Cond.code ({ cls := "LintDesk$Marks", name := "add", desc := "(II)V" } : Jvm.MethodName) prog_5_method_4_code (3 : Nat) (Option.none : Option Jvm.ClassFile.FieldType)) ∈ xWs := xWs_of (lw_T (i := 467) rfl) rfl
set_option maxRecDepth 100000 in
theorem xw468 : (Jvm.Cond.methodLink "LintDesk$Marks" (22 : Nat) ({ cls := "LintDesk$Marks", name := "isThere", desc := "(I)Z" } : Jvm.MethodName)) ∈ xWs := xWs_of (lw_T (i := 468) rfl) rfl
set_option maxRecDepth 100000 in
theorem xw469 : (Jvm.Cond.static ({ cls := "LintDesk$Marks", name := "isThere", desc := "(I)Z" } : Jvm.MethodName)) ∈ xWs := xWs_of (lw_T (i := 469) rfl) rfl
set_option maxRecDepth 100000 in
theorem xw470 : (Jvm.Cond.code ({ cls := "LintDesk$Marks", name := "isThere", desc := "(I)Z" } : Jvm.MethodName) prog_5_method_3_code (1 : Nat) (Option.some Jvm.ClassFile.FieldType.boolean)) ∈ xWs := xWs_of (lw_T (i := 470) rfl) rfl
set_option maxRecDepth 100000 in
theorem xw471 : (Jvm.Cond.methodLink "LintDesk$Parser" (79 : Nat) ({ cls := "LintDesk$Parser", name := "statement", desc := "(IZZ)Z" } : Jvm.MethodName)) ∈ xWs := xWs_of (lw_T (i := 471) rfl) rfl
set_option maxRecDepth 100000 in
theorem xw473 : (Jvm.Cond.instanceMethod ({ cls := "LintDesk$Parser", name := "statement", desc := "(IZZ)Z" } : Jvm.MethodName)) ∈ xWs := xWs_of (lw_T (i := 473) rfl) rfl
set_option maxRecDepth 100000 in
theorem xw474 : (Jvm.Cond.code ({ cls := "LintDesk$Parser", name := "statement", desc := "(IZZ)Z" } : Jvm.MethodName) prog_6_method_6_code (4 : Nat) (Option.some Jvm.ClassFile.FieldType.boolean)) ∈ xWs := xWs_of (lw_T (i := 474) rfl) rfl
set_option maxRecDepth 100000 in
theorem xw475 : (Jvm.Cond.fieldLink "LintDesk$Parser" (86 : Nat) "LintDesk$1" "$SwitchMap$LintDesk$Token" "[I") ∈ xWs := xWs_of (lw_T (i := 475) rfl) rfl
set_option maxRecDepth 100000 in
theorem xw477 : (Jvm.Cond.methodLink "LintDesk$Parser" (92 : Nat) ({ cls := "LintDesk$Token", name := "ordinal", desc := "()I" } : Jvm.MethodName)) ∈ xWs := xWs_of (lw_T (i := 477) rfl) rfl
set_option maxRecDepth 100000 in
theorem xw478 : (Jvm.Cond.sameMethod "LintDesk$Token" "java/lang/Enum" "ordinal" "()I") ∈ xWs := xWs_of (lw_T (i := 478) rfl) rfl
set_option maxRecDepth 100000 in
theorem xw480 : (Jvm.Cond.selects "LintDesk$Token" ({ cls := "LintDesk$Token", name := "ordinal", desc := "()I" } : Jvm.MethodName) ({ cls := "java/lang/Enum", name := "ordinal", desc := "()I" } : Jvm.MethodName)) ∈ xWs := xWs_of (lw_T (i := 480) rfl) rfl
set_option maxRecDepth 100000 in
theorem xw481 : (Jvm.Cond.instanceMethod ({ cls := "java/lang/Enum", name := "ordinal", desc := "()I" } : Jvm.MethodName)) ∈ xWs := xWs_of (lw_T (i := 481) rfl) rfl
set_option maxRecDepth 100000 in
theorem xw482 : (Jvm.Cond.code ({ cls := "java/lang/Enum", name := "ordinal", desc := "()I" } : Jvm.MethodName) prog_15_method_2_code (1 : Nat) (Option.some Jvm.ClassFile.FieldType.int)) ∈ xWs := xWs_of (lw_T (i := 482) rfl) rfl
set_option maxRecDepth 100000 in
theorem xw483 : (Jvm.Cond.methodLink "LintDesk$Parser" (96 : Nat) ({ cls := "LintDesk$Parser", name := "variable", desc := "(II)Z" } : Jvm.MethodName)) ∈ xWs := xWs_of (lw_T (i := 483) rfl) rfl
set_option maxRecDepth 100000 in
theorem xw485 : (Jvm.Cond.instanceMethod ({ cls := "LintDesk$Parser", name := "variable", desc := "(II)Z" } : Jvm.MethodName)) ∈ xWs := xWs_of (lw_T (i := 485) rfl) rfl
set_option maxRecDepth 100000 in
theorem xw486 : (Jvm.Cond.code ({ cls := "LintDesk$Parser", name := "variable", desc := "(II)Z" } : Jvm.MethodName) prog_6_method_8_code (6 : Nat) (Option.some Jvm.ClassFile.FieldType.boolean)) ∈ xWs := xWs_of (lw_T (i := 486) rfl) rfl
set_option maxRecDepth 100000 in
theorem xw487 : (Jvm.Cond.fieldLink "LintDesk$Parser" (136 : Nat) "LintDesk$Token" "NAME" "LLintDesk$Token;") ∈ xWs := xWs_of (lw_T (i := 487) rfl) rfl
set_option maxRecDepth 100000 in
theorem xw488 : (Jvm.Cond.methodLink "LintDesk$Parser" (132 : Nat) ({ cls := "LintDesk$Parser", name := "take", desc := "(LLintDesk$Token;)Z" } : Jvm.MethodName)) ∈ xWs := xWs_of (lw_T (i := 488) rfl) rfl
set_option maxRecDepth 100000 in
theorem xw490 : (Jvm.Cond.instanceMethod ({ cls := "LintDesk$Parser", name := "take", desc := "(LLintDesk$Token;)Z" } : Jvm.MethodName)) ∈ xWs := xWs_of (lw_T (i := 490) rfl) rfl
set_option maxRecDepth 100000 in
theorem xw491 : (Jvm.Cond.code ({ cls := "LintDesk$Parser", name := "take", desc := "(LLintDesk$Token;)Z" } : Jvm.MethodName) prog_6_method_4_code (2 : Nat) (Option.some Jvm.ClassFile.FieldType.boolean)) ∈ xWs := xWs_of (lw_T (i := 491) rfl) rfl
set_option maxRecDepth 100000 in
theorem xw492 : (Jvm.Cond.fieldLink "LintDesk$Parser" (139 : Nat) "LintDesk$Token" "BECOMES" "LLintDesk$Token;") ∈ xWs := xWs_of (lw_T (i := 492) rfl) rfl
set_option maxRecDepth 100000 in
theorem xw494 : (Jvm.Cond.methodLink "LintDesk$Parser" (113 : Nat) ({ cls := "LintDesk$Scopes", name := "homeOf", desc := "(I)I" } : Jvm.MethodName)) ∈ xWs := xWs_of (lw_T (i := 494) rfl) rfl
set_option maxRecDepth 100000 in
theorem xw495 : (Jvm.Cond.instanceMethod ({ cls := "LintDesk$Scopes", name := "homeOf", desc := "(I)I" } : Jvm.MethodName)) ∈ xWs := xWs_of (lw_T (i := 495) rfl) rfl
set_option maxRecDepth 100000 in
theorem xw496 : (Jvm.Cond.selects "LintDesk$Scopes" ({ cls := "LintDesk$Scopes", name := "homeOf", desc := "(I)I" } : Jvm.MethodName) ({ cls := "LintDesk$Scopes", name := "homeOf", desc := "(I)I" } : Jvm.MethodName)) ∈ xWs := xWs_of (lw_T (i := 496) rfl) rfl
set_option maxRecDepth 100000 in
theorem xw497 : (Jvm.Cond.code ({ cls := "LintDesk$Scopes", name := "homeOf", desc := "(I)I" } : Jvm.MethodName) prog_8_method_6_code (2 : Nat) (Option.some Jvm.ClassFile.FieldType.int)) ∈ xWs := xWs_of (lw_T (i := 497) rfl) rfl
set_option maxRecDepth 100000 in
theorem xw498 : (Jvm.Cond.methodLink "LintDesk$Scopes" (25 : Nat) ({ cls := "LintDesk$Scopes", name := "isThere", desc := "(I)Z" } : Jvm.MethodName)) ∈ xWs := xWs_of (lw_T (i := 498) rfl) rfl
set_option maxRecDepth 100000 in
theorem xw500 : (Jvm.Cond.instanceMethod ({ cls := "LintDesk$Scopes", name := "isThere", desc := "(I)Z" } : Jvm.MethodName)) ∈ xWs := xWs_of (lw_T (i := 500) rfl) rfl
set_option maxRecDepth 100000 in
theorem xw501 : (Jvm.Cond.code ({ cls := "LintDesk$Scopes", name := "isThere", desc := "(I)Z" } : Jvm.MethodName) prog_8_method_4_code (2 : Nat) (Option.some Jvm.ClassFile.FieldType.boolean)) ∈ xWs := xWs_of (lw_T (i := 501) rfl) rfl
set_option maxRecDepth 100000 in
theorem xw502 : (Jvm.Cond.methodLink "LintDesk$Parser" (142 : Nat) ({ cls := "LintDesk$Binder", name := "declare", desc := "(IIIZ)V" } : Jvm.MethodName)) ∈ xWs := xWs_of (lw_T (i := 502) rfl) rfl
set_option maxRecDepth 100000 in
theorem xw503 : (Jvm.Cond.instanceMethod ({ cls := "LintDesk$Binder", name := "declare", desc := "(IIIZ)V" } : Jvm.MethodName)) ∈ xWs := xWs_of (lw_T (i := 503) rfl) rfl
set_option maxRecDepth 100000 in
theorem xw504 : (Jvm.Cond.selects "LintDesk$Binder" ({ cls := "LintDesk$Binder", name := "declare", desc := "(IIIZ)V" } : Jvm.MethodName) ({ cls := "LintDesk$Binder", name := "declare", desc := "(IIIZ)V" } : Jvm.MethodName)) ∈ xWs := xWs_of (lw_T (i := 504) rfl) rfl
set_option maxRecDepth 100000 in
theorem xw505 : (Jvm.Cond.code ({ cls := "LintDesk$Binder", name := "declare", desc := "(IIIZ)V" } : Jvm.MethodName) prog_3_method_4_code (7 : Nat) (Option.none : Option Jvm.ClassFile.FieldType)) ∈ xWs := xWs_of (lw_T (i := 505) rfl) rfl
set_option maxRecDepth 100000 in
theorem xw506 : (Jvm.Cond.methodLink "LintDesk$Binder" (50 : Nat) ({ cls := "LintDesk$Tokens", name := "wordOf", desc := "(I)I" } : Jvm.MethodName)) ∈ xWs := xWs_of (lw_T (i := 506) rfl) rfl
set_option maxRecDepth 100000 in
theorem xw507 : (Jvm.Cond.instanceMethod ({ cls := "LintDesk$Tokens", name := "wordOf", desc := "(I)I" } : Jvm.MethodName)) ∈ xWs := xWs_of (lw_T (i := 507) rfl) rfl
set_option maxRecDepth 100000 in
theorem xw508 : (Jvm.Cond.selects "LintDesk$Tokens" ({ cls := "LintDesk$Tokens", name := "wordOf", desc := "(I)I" } : Jvm.MethodName) ({ cls := "LintDesk$Tokens", name := "wordOf", desc := "(I)I" } : Jvm.MethodName)) ∈ xWs := xWs_of (lw_T (i := 508) rfl) rfl
set_option maxRecDepth 100000 in
theorem xw509 : (Jvm.Cond.code ({ cls := "LintDesk$Tokens", name := "wordOf", desc := "(I)I" } : Jvm.MethodName) prog_12_method_14_code (2 : Nat) (Option.some Jvm.ClassFile.FieldType.int)) ∈ xWs := xWs_of (lw_T (i := 509) rfl) rfl
set_option maxRecDepth 100000 in
theorem xw510 : (Jvm.Cond.methodLink "LintDesk$Tokens" (130 : Nat) ({ cls := "LintDesk$Tokens", name := "isThere", desc := "(I)Z" } : Jvm.MethodName)) ∈ xWs := xWs_of (lw_T (i := 510) rfl) rfl
set_option maxRecDepth 100000 in
theorem xw512 : (Jvm.Cond.instanceMethod ({ cls := "LintDesk$Tokens", name := "isThere", desc := "(I)Z" } : Jvm.MethodName)) ∈ xWs := xWs_of (lw_T (i := 512) rfl) rfl
set_option maxRecDepth 100000 in
theorem xw513 : (Jvm.Cond.code ({ cls := "LintDesk$Tokens", name := "isThere", desc := "(I)Z" } : Jvm.MethodName) prog_12_method_8_code (2 : Nat) (Option.some Jvm.ClassFile.FieldType.boolean)) ∈ xWs := xWs_of (lw_T (i := 513) rfl) rfl
set_option maxRecDepth 100000 in
theorem xw514 : (Jvm.Cond.methodLink "LintDesk$Binder" (56 : Nat) ({ cls := "LintDesk$Things", name := "inScope", desc := "(II)I" } : Jvm.MethodName)) ∈ xWs := xWs_of (lw_T (i := 514) rfl) rfl
set_option maxRecDepth 100000 in
theorem xw515 : (Jvm.Cond.instanceMethod ({ cls := "LintDesk$Things", name := "inScope", desc := "(II)I" } : Jvm.MethodName)) ∈ xWs := xWs_of (lw_T (i := 515) rfl) rfl
set_option maxRecDepth 100000 in
theorem xw516 : (Jvm.Cond.selects "LintDesk$Things" ({ cls := "LintDesk$Things", name := "inScope", desc := "(II)I" } : Jvm.MethodName) ({ cls := "LintDesk$Things", name := "inScope", desc := "(II)I" } : Jvm.MethodName)) ∈ xWs := xWs_of (lw_T (i := 516) rfl) rfl
set_option maxRecDepth 100000 in
theorem xw517 : (Jvm.Cond.code ({ cls := "LintDesk$Things", name := "inScope", desc := "(II)I" } : Jvm.MethodName) prog_10_method_3_code (4 : Nat) (Option.some Jvm.ClassFile.FieldType.int)) ∈ xWs := xWs_of (lw_T (i := 517) rfl) rfl
set_option maxRecDepth 100000 in
theorem xw518 : (Jvm.Cond.methodLink "LintDesk$Binder" (61 : Nat) ({ cls := "LintDesk$Things", name := "add", desc := "(IIII)V" } : Jvm.MethodName)) ∈ xWs := xWs_of (lw_T (i := 518) rfl) rfl
set_option maxRecDepth 100000 in
theorem xw519 : (Jvm.Cond.instanceMethod ({ cls := "LintDesk$Things", name := "add", desc := "(IIII)V" } : Jvm.MethodName)) ∈ xWs := xWs_of (lw_T (i := 519) rfl) rfl
set_option maxRecDepth 100000 in
theorem xw520 : (Jvm.Cond.selects "LintDesk$Things" ({ cls := "LintDesk$Things", name := "add", desc := "(IIII)V" } : Jvm.MethodName) ({ cls := "LintDesk$Things", name := "add", desc := "(IIII)V" } : Jvm.MethodName)) ∈ xWs := xWs_of (lw_T (i := 520) rfl) rfl
set_option maxRecDepth 100000 in
theorem xw521 : (Jvm.Cond.code ({ cls := "LintDesk$Things", name := "add", desc := "(IIII)V" } : Jvm.MethodName) prog_10_method_4_code (5 : Nat) (Option.none : Option Jvm.ClassFile.FieldType)) ∈ xWs := xWs_of (lw_T (i := 521) rfl) rfl
set_option maxRecDepth 100000 in
theorem xw522 : (Jvm.Cond.methodLink "LintDesk$Binder" (71 : Nat) ({ cls := "LintDesk$Marks", name := "add", desc := "(II)V" } : Jvm.MethodName)) ∈ xWs := xWs_of (lw_T (i := 522) rfl) rfl
set_option maxRecDepth 100000 in
theorem xw523 : (Jvm.Cond.methodLink "LintDesk$Parser" (126 : Nat) ({ cls := "LintDesk$Parser", name := "value", desc := "(I)Z" } : Jvm.MethodName)) ∈ xWs := xWs_of (lw_T (i := 523) rfl) rfl
set_option maxRecDepth 100000 in
theorem xw525 : (Jvm.Cond.instanceMethod ({ cls := "LintDesk$Parser", name := "value", desc := "(I)Z" } : Jvm.MethodName)) ∈ xWs := xWs_of (lw_T (i := 525) rfl) rfl
set_option maxRecDepth 100000 in
theorem xw526 : (Jvm.Cond.code ({ cls := "LintDesk$Parser", name := "value", desc := "(I)Z" } : Jvm.MethodName) prog_6_method_17_code (3 : Nat) (Option.some Jvm.ClassFile.FieldType.boolean)) ∈ xWs := xWs_of (lw_T (i := 526) rfl) rfl
set_option maxRecDepth 100000 in
theorem xw527 : (Jvm.Cond.methodLink "LintDesk$Parser" (182 : Nat) ({ cls := "LintDesk$Binder", name := "addUse", desc := "(IIZ)V" } : Jvm.MethodName)) ∈ xWs := xWs_of (lw_T (i := 527) rfl) rfl
set_option maxRecDepth 100000 in
theorem xw528 : (Jvm.Cond.instanceMethod ({ cls := "LintDesk$Binder", name := "addUse", desc := "(IIZ)V" } : Jvm.MethodName)) ∈ xWs := xWs_of (lw_T (i := 528) rfl) rfl
set_option maxRecDepth 100000 in
theorem xw529 : (Jvm.Cond.selects "LintDesk$Binder" ({ cls := "LintDesk$Binder", name := "addUse", desc := "(IIZ)V" } : Jvm.MethodName) ({ cls := "LintDesk$Binder", name := "addUse", desc := "(IIZ)V" } : Jvm.MethodName)) ∈ xWs := xWs_of (lw_T (i := 529) rfl) rfl
set_option maxRecDepth 100000 in
theorem xw530 : (Jvm.Cond.code ({ cls := "LintDesk$Binder", name := "addUse", desc := "(IIZ)V" } : Jvm.MethodName) prog_3_method_3_code (4 : Nat) (Option.none : Option Jvm.ClassFile.FieldType)) ∈ xWs := xWs_of (lw_T (i := 530) rfl) rfl
set_option maxRecDepth 100000 in
theorem xw531 : (Jvm.Cond.methodLink "LintDesk$Parser" (186 : Nat) ({ cls := "LintDesk$Parser", name := "part", desc := "(I)Z" } : Jvm.MethodName)) ∈ xWs := xWs_of (lw_T (i := 531) rfl) rfl
set_option maxRecDepth 100000 in
theorem xw533 : (Jvm.Cond.instanceMethod ({ cls := "LintDesk$Parser", name := "part", desc := "(I)Z" } : Jvm.MethodName)) ∈ xWs := xWs_of (lw_T (i := 533) rfl) rfl
set_option maxRecDepth 100000 in
theorem xw534 : (Jvm.Cond.code ({ cls := "LintDesk$Parser", name := "part", desc := "(I)Z" } : Jvm.MethodName) prog_6_method_18_code (2 : Nat) (Option.some Jvm.ClassFile.FieldType.boolean)) ∈ xWs := xWs_of (lw_T (i := 534) rfl) rfl
set_option maxRecDepth 100000 in
theorem xw535 : (Jvm.Cond.fieldLink "LintDesk$Parser" (195 : Nat) "LintDesk$Token" "NUMBER" "LLintDesk$Token;") ∈ xWs := xWs_of (lw_T (i := 535) rfl) rfl
set_option maxRecDepth 100000 in
theorem xw536 : (Jvm.Cond.fieldLink "LintDesk$Parser" (198 : Nat) "LintDesk$Token" "TEXT" "LLintDesk$Token;") ∈ xWs := xWs_of (lw_T (i := 536) rfl) rfl
set_option maxRecDepth 100000 in
theorem xw537 : (Jvm.Cond.methodLink "LintDesk$Parser" (201 : Nat) ({ cls := "LintDesk$Parser", name := "use", desc := "(I)Z" } : Jvm.MethodName)) ∈ xWs := xWs_of (lw_T (i := 537) rfl) rfl
set_option maxRecDepth 100000 in
theorem xw539 : (Jvm.Cond.instanceMethod ({ cls := "LintDesk$Parser", name := "use", desc := "(I)Z" } : Jvm.MethodName)) ∈ xWs := xWs_of (lw_T (i := 539) rfl) rfl
set_option maxRecDepth 100000 in
theorem xw540 : (Jvm.Cond.code ({ cls := "LintDesk$Parser", name := "use", desc := "(I)Z" } : Jvm.MethodName) prog_6_method_19_code (2 : Nat) (Option.some Jvm.ClassFile.FieldType.boolean)) ∈ xWs := xWs_of (lw_T (i := 540) rfl) rfl
set_option maxRecDepth 100000 in
theorem xw541 : (Jvm.Cond.fieldLink "LintDesk$Parser" (150 : Nat) "LintDesk$Token" "OPEN" "LLintDesk$Token;") ∈ xWs := xWs_of (lw_T (i := 541) rfl) rfl
set_option maxRecDepth 100000 in
theorem xw543 : (Jvm.Cond.fieldLink "LintDesk$Parser" (157 : Nat) "LintDesk$Token" "CLOSE" "LLintDesk$Token;") ∈ xWs := xWs_of (lw_T (i := 543) rfl) rfl
set_option maxRecDepth 100000 in
theorem xw545 : (Jvm.Cond.methodLink "LintDesk$Parser" (204 : Nat) ({ cls := "LintDesk$Parser", name := "arguments", desc := "(I)Z" } : Jvm.MethodName)) ∈ xWs := xWs_of (lw_T (i := 545) rfl) rfl
set_option maxRecDepth 100000 in
theorem xw547 : (Jvm.Cond.instanceMethod ({ cls := "LintDesk$Parser", name := "arguments", desc := "(I)Z" } : Jvm.MethodName)) ∈ xWs := xWs_of (lw_T (i := 547) rfl) rfl
set_option maxRecDepth 100000 in
theorem xw548 : (Jvm.Cond.code ({ cls := "LintDesk$Parser", name := "arguments", desc := "(I)Z" } : Jvm.MethodName) prog_6_method_20_code (3 : Nat) (Option.some Jvm.ClassFile.FieldType.boolean)) ∈ xWs := xWs_of (lw_T (i := 548) rfl) rfl
set_option maxRecDepth 100000 in
theorem xw549 : (Jvm.Cond.fieldLink "LintDesk$Parser" (163 : Nat) "LintDesk$Token" "COMMA" "LLintDesk$Token;") ∈ xWs := xWs_of (lw_T (i := 549) rfl) rfl
set_option maxRecDepth 100000 in
theorem xw551 : (Jvm.Cond.methodLink "LintDesk$Parser" (189 : Nat) ({ cls := "LintDesk$Token", name := "joinsParts", desc := "()Z" } : Jvm.MethodName)) ∈ xWs := xWs_of (lw_T (i := 551) rfl) rfl
set_option maxRecDepth 100000 in
theorem xw552 : (Jvm.Cond.instanceMethod ({ cls := "LintDesk$Token", name := "joinsParts", desc := "()Z" } : Jvm.MethodName)) ∈ xWs := xWs_of (lw_T (i := 552) rfl) rfl
set_option maxRecDepth 100000 in
theorem xw553 : (Jvm.Cond.selects "LintDesk$Token" ({ cls := "LintDesk$Token", name := "joinsParts", desc := "()Z" } : Jvm.MethodName) ({ cls := "LintDesk$Token", name := "joinsParts", desc := "()Z" } : Jvm.MethodName)) ∈ xWs := xWs_of (lw_T (i := 553) rfl) rfl
set_option maxRecDepth 100000 in
theorem xw554 : (Jvm.Cond.code ({ cls := "LintDesk$Token", name := "joinsParts", desc := "()Z" } : Jvm.MethodName) prog_11_method_4_code (1 : Nat) (Option.some Jvm.ClassFile.FieldType.boolean)) ∈ xWs := xWs_of (lw_T (i := 554) rfl) rfl
set_option maxRecDepth 100000 in
theorem xw555 : (Jvm.Cond.fieldLink "LintDesk$Token" (28 : Nat) "LintDesk$Token" "SAME" "LLintDesk$Token;") ∈ xWs := xWs_of (lw_T (i := 555) rfl) rfl
set_option maxRecDepth 100000 in
theorem xw557 : (Jvm.Cond.fieldLink "LintDesk$Token" (31 : Nat) "LintDesk$Token" "LIKE" "LLintDesk$Token;") ∈ xWs := xWs_of (lw_T (i := 557) rfl) rfl
set_option maxRecDepth 100000 in
theorem xw559 : (Jvm.Cond.fieldLink "LintDesk$Token" (37 : Nat) "LintDesk$Token" "PLUS" "LLintDesk$Token;") ∈ xWs := xWs_of (lw_T (i := 559) rfl) rfl
set_option maxRecDepth 100000 in
theorem xw561 : (Jvm.Cond.fieldLink "LintDesk$Token" (40 : Nat) "LintDesk$Token" "MINUS" "LLintDesk$Token;") ∈ xWs := xWs_of (lw_T (i := 561) rfl) rfl
set_option maxRecDepth 100000 in
theorem xw563 : (Jvm.Cond.fieldLink "LintDesk$Token" (43 : Nat) "LintDesk$Token" "TIMES" "LLintDesk$Token;") ∈ xWs := xWs_of (lw_T (i := 563) rfl) rfl
set_option maxRecDepth 100000 in
theorem xw565 : (Jvm.Cond.fieldLink "LintDesk$Token" (46 : Nat) "LintDesk$Token" "LESS" "LLintDesk$Token;") ∈ xWs := xWs_of (lw_T (i := 565) rfl) rfl
set_option maxRecDepth 100000 in
theorem xw567 : (Jvm.Cond.fieldLink "LintDesk$Parser" (192 : Nat) "LintDesk$Token" "LIKE" "LLintDesk$Token;") ∈ xWs := xWs_of (lw_T (i := 567) rfl) rfl
set_option maxRecDepth 100000 in
theorem xw568 : (Jvm.Cond.fieldLink "LintDesk$Parser" (129 : Nat) "LintDesk$Token" "STOP" "LLintDesk$Token;") ∈ xWs := xWs_of (lw_T (i := 568) rfl) rfl
set_option maxRecDepth 100000 in
theorem xw570 : (Jvm.Cond.methodLink "LintDesk$Parser" (100 : Nat) ({ cls := "LintDesk$Parser", name := "function", desc := "(I)Z" } : Jvm.MethodName)) ∈ xWs := xWs_of (lw_T (i := 570) rfl) rfl
set_option maxRecDepth 100000 in
theorem xw572 : (Jvm.Cond.instanceMethod ({ cls := "LintDesk$Parser", name := "function", desc := "(I)Z" } : Jvm.MethodName)) ∈ xWs := xWs_of (lw_T (i := 572) rfl) rfl
set_option maxRecDepth 100000 in
theorem xw573 : (Jvm.Cond.code ({ cls := "LintDesk$Parser", name := "function", desc := "(I)Z" } : Jvm.MethodName) prog_6_method_9_code (5 : Nat) (Option.some Jvm.ClassFile.FieldType.boolean)) ∈ xWs := xWs_of (lw_T (i := 573) rfl) rfl
set_option maxRecDepth 100000 in
theorem xw574 : (Jvm.Cond.methodLink "LintDesk$Parser" (146 : Nat) ({ cls := "LintDesk$Scopes", name := "open", desc := "(IZ)I" } : Jvm.MethodName)) ∈ xWs := xWs_of (lw_T (i := 574) rfl) rfl
set_option maxRecDepth 100000 in
theorem xw575 : (Jvm.Cond.instanceMethod ({ cls := "LintDesk$Scopes", name := "open", desc := "(IZ)I" } : Jvm.MethodName)) ∈ xWs := xWs_of (lw_T (i := 575) rfl) rfl
set_option maxRecDepth 100000 in
theorem xw576 : (Jvm.Cond.selects "LintDesk$Scopes" ({ cls := "LintDesk$Scopes", name := "open", desc := "(IZ)I" } : Jvm.MethodName) ({ cls := "LintDesk$Scopes", name := "open", desc := "(IZ)I" } : Jvm.MethodName)) ∈ xWs := xWs_of (lw_T (i := 576) rfl) rfl
set_option maxRecDepth 100000 in
theorem xw577 : (Jvm.Cond.code ({ cls := "LintDesk$Scopes", name := "open", desc := "(IZ)I" } : Jvm.MethodName) prog_8_method_3_code (4 : Nat) (Option.some Jvm.ClassFile.FieldType.int)) ∈ xWs := xWs_of (lw_T (i := 577) rfl) rfl
set_option maxRecDepth 100000 in
theorem xw578 : (Jvm.Cond.methodLink "LintDesk$Parser" (153 : Nat) ({ cls := "LintDesk$Parser", name := "parameters", desc := "()Z" } : Jvm.MethodName)) ∈ xWs := xWs_of (lw_T (i := 578) rfl) rfl
set_option maxRecDepth 100000 in
theorem xw580 : (Jvm.Cond.instanceMethod ({ cls := "LintDesk$Parser", name := "parameters", desc := "()Z" } : Jvm.MethodName)) ∈ xWs := xWs_of (lw_T (i := 580) rfl) rfl
set_option maxRecDepth 100000 in
theorem xw581 : (Jvm.Cond.code ({ cls := "LintDesk$Parser", name := "parameters", desc := "()Z" } : Jvm.MethodName) prog_6_method_10_code (3 : Nat) (Option.some Jvm.ClassFile.FieldType.boolean)) ∈ xWs := xWs_of (lw_T (i := 581) rfl) rfl
set_option maxRecDepth 100000 in
theorem xw582 : (Jvm.Cond.fieldLink "LintDesk$Parser" (160 : Nat) "LintDesk$Token" "BEGIN" "LLintDesk$Token;") ∈ xWs := xWs_of (lw_T (i := 582) rfl) rfl
set_option maxRecDepth 100000 in
theorem xw584 : (Jvm.Cond.methodLink "LintDesk$Parser" (103 : Nat) ({ cls := "LintDesk$Parser", name := "block", desc := "(IZ)Z" } : Jvm.MethodName)) ∈ xWs := xWs_of (lw_T (i := 584) rfl) rfl
set_option maxRecDepth 100000 in
theorem xw586 : (Jvm.Cond.instanceMethod ({ cls := "LintDesk$Parser", name := "block", desc := "(IZ)Z" } : Jvm.MethodName)) ∈ xWs := xWs_of (lw_T (i := 586) rfl) rfl
set_option maxRecDepth 100000 in
theorem xw587 : (Jvm.Cond.code ({ cls := "LintDesk$Parser", name := "block", desc := "(IZ)Z" } : Jvm.MethodName) prog_6_method_11_code (6 : Nat) (Option.some Jvm.ClassFile.FieldType.boolean)) ∈ xWs := xWs_of (lw_T (i := 587) rfl) rfl
set_option maxRecDepth 100000 in
theorem xw588 : (Jvm.Cond.methodLink "LintDesk$Parser" (166 : Nat) ({ cls := "LintDesk$Marks", name := "loosen", desc := "(I)V" } : Jvm.MethodName)) ∈ xWs := xWs_of (lw_T (i := 588) rfl) rfl
set_option maxRecDepth 100000 in
theorem xw589 : (Jvm.Cond.instanceMethod ({ cls := "LintDesk$Marks", name := "loosen", desc := "(I)V" } : Jvm.MethodName)) ∈ xWs := xWs_of (lw_T (i := 589) rfl) rfl
set_option maxRecDepth 100000 in
theorem xw590 : (Jvm.Cond.selects "LintDesk$Marks" ({ cls := "LintDesk$Marks", name := "loosen", desc := "(I)V" } : Jvm.MethodName) ({ cls := "LintDesk$Marks", name := "loosen", desc := "(I)V" } : Jvm.MethodName)) ∈ xWs := xWs_of (lw_T (i := 590) rfl) rfl
set_option maxRecDepth 100000 in
theorem xw591 : (Jvm.Cond.code ({ cls := "LintDesk$Marks", name := "loosen", desc := "(I)V" } : Jvm.MethodName) prog_5_method_6_code (2 : Nat) (Option.none : Option Jvm.ClassFile.FieldType)) ∈ xWs := xWs_of (lw_T (i := 591) rfl) rfl
set_option maxRecDepth 100000 in
theorem xw592 : (Jvm.Cond.methodLink "LintDesk$Parser" (107 : Nat) ({ cls := "LintDesk$Parser", name := "choice", desc := "(I)Z" } : Jvm.MethodName)) ∈ xWs := xWs_of (lw_T (i := 592) rfl) rfl
set_option maxRecDepth 100000 in
theorem xw594 : (Jvm.Cond.instanceMethod ({ cls := "LintDesk$Parser", name := "choice", desc := "(I)Z" } : Jvm.MethodName)) ∈ xWs := xWs_of (lw_T (i := 594) rfl) rfl
set_option maxRecDepth 100000 in
theorem xw595 : (Jvm.Cond.code ({ cls := "LintDesk$Parser", name := "choice", desc := "(I)Z" } : Jvm.MethodName) prog_6_method_13_code (2 : Nat) (Option.some Jvm.ClassFile.FieldType.boolean)) ∈ xWs := xWs_of (lw_T (i := 595) rfl) rfl
set_option maxRecDepth 100000 in
theorem xw596 : (Jvm.Cond.methodLink "LintDesk$Parser" (170 : Nat) ({ cls := "LintDesk$Parser", name := "condition", desc := "(I)Z" } : Jvm.MethodName)) ∈ xWs := xWs_of (lw_T (i := 596) rfl) rfl
set_option maxRecDepth 100000 in
theorem xw598 : (Jvm.Cond.instanceMethod ({ cls := "LintDesk$Parser", name := "condition", desc := "(I)Z" } : Jvm.MethodName)) ∈ xWs := xWs_of (lw_T (i := 598) rfl) rfl
set_option maxRecDepth 100000 in
theorem xw599 : (Jvm.Cond.code ({ cls := "LintDesk$Parser", name := "condition", desc := "(I)Z" } : Jvm.MethodName) prog_6_method_12_code (2 : Nat) (Option.some Jvm.ClassFile.FieldType.boolean)) ∈ xWs := xWs_of (lw_T (i := 599) rfl) rfl
set_option maxRecDepth 100000 in
theorem xw600 : (Jvm.Cond.fieldLink "LintDesk$Parser" (173 : Nat) "LintDesk$Token" "ELSE" "LLintDesk$Token;") ∈ xWs := xWs_of (lw_T (i := 600) rfl) rfl
set_option maxRecDepth 100000 in
theorem xw602 : (Jvm.Cond.methodLink "LintDesk$Parser" (110 : Nat) ({ cls := "LintDesk$Parser", name := "loop", desc := "(I)Z" } : Jvm.MethodName)) ∈ xWs := xWs_of (lw_T (i := 602) rfl) rfl
set_option maxRecDepth 100000 in
theorem xw604 : (Jvm.Cond.instanceMethod ({ cls := "LintDesk$Parser", name := "loop", desc := "(I)Z" } : Jvm.MethodName)) ∈ xWs := xWs_of (lw_T (i := 604) rfl) rfl
set_option maxRecDepth 100000 in
theorem xw605 : (Jvm.Cond.code ({ cls := "LintDesk$Parser", name := "loop", desc := "(I)Z" } : Jvm.MethodName) prog_6_method_14_code (2 : Nat) (Option.some Jvm.ClassFile.FieldType.boolean)) ∈ xWs := xWs_of (lw_T (i := 605) rfl) rfl
set_option maxRecDepth 100000 in
theorem xw606 : (Jvm.Cond.methodLink "LintDesk$Parser" (116 : Nat) ({ cls := "LintDesk$Parser", name := "leave", desc := "(I)Z" } : Jvm.MethodName)) ∈ xWs := xWs_of (lw_T (i := 606) rfl) rfl
set_option maxRecDepth 100000 in
theorem xw608 : (Jvm.Cond.instanceMethod ({ cls := "LintDesk$Parser", name := "leave", desc := "(I)Z" } : Jvm.MethodName)) ∈ xWs := xWs_of (lw_T (i := 608) rfl) rfl
set_option maxRecDepth 100000 in
theorem xw609 : (Jvm.Cond.code ({ cls := "LintDesk$Parser", name := "leave", desc := "(I)Z" } : Jvm.MethodName) prog_6_method_15_code (2 : Nat) (Option.some Jvm.ClassFile.FieldType.boolean)) ∈ xWs := xWs_of (lw_T (i := 609) rfl) rfl
set_option maxRecDepth 100000 in
theorem xw610 : (Jvm.Cond.methodLink "LintDesk$Parser" (119 : Nat) ({ cls := "LintDesk$Parser", name := "excuse", desc := "(IZ)Z" } : Jvm.MethodName)) ∈ xWs := xWs_of (lw_T (i := 610) rfl) rfl
set_option maxRecDepth 100000 in
theorem xw612 : (Jvm.Cond.instanceMethod ({ cls := "LintDesk$Parser", name := "excuse", desc := "(IZ)Z" } : Jvm.MethodName)) ∈ xWs := xWs_of (lw_T (i := 612) rfl) rfl
set_option maxRecDepth 100000 in
theorem xw613 : (Jvm.Cond.code ({ cls := "LintDesk$Parser", name := "excuse", desc := "(IZ)Z" } : Jvm.MethodName) prog_6_method_16_code (5 : Nat) (Option.some Jvm.ClassFile.FieldType.boolean)) ∈ xWs := xWs_of (lw_T (i := 613) rfl) rfl
set_option maxRecDepth 100000 in
theorem xw614 : (Jvm.Cond.methodLink "LintDesk$Parser" (176 : Nat) ({ cls := "LintDesk$Tokens", name := "digitOf", desc := "(I)I" } : Jvm.MethodName)) ∈ xWs := xWs_of (lw_T (i := 614) rfl) rfl
set_option maxRecDepth 100000 in
theorem xw615 : (Jvm.Cond.instanceMethod ({ cls := "LintDesk$Tokens", name := "digitOf", desc := "(I)I" } : Jvm.MethodName)) ∈ xWs := xWs_of (lw_T (i := 615) rfl) rfl
set_option maxRecDepth 100000 in
theorem xw616 : (Jvm.Cond.selects "LintDesk$Tokens" ({ cls := "LintDesk$Tokens", name := "digitOf", desc := "(I)I" } : Jvm.MethodName) ({ cls := "LintDesk$Tokens", name := "digitOf", desc := "(I)I" } : Jvm.MethodName)) ∈ xWs := xWs_of (lw_T (i := 616) rfl) rfl
set_option maxRecDepth 100000 in
theorem xw617 : (Jvm.Cond.code ({ cls := "LintDesk$Tokens", name := "digitOf", desc := "(I)I" } : Jvm.MethodName) prog_12_method_12_code (3 : Nat) (Option.some Jvm.ClassFile.FieldType.int)) ∈ xWs := xWs_of (lw_T (i := 617) rfl) rfl
set_option maxRecDepth 100000 in
theorem xw618 : (Jvm.Cond.methodLink "LintDesk$Tokens" (136 : Nat) ({ cls := "LintDesk$Tokens", name := "endOf", desc := "(I)I" } : Jvm.MethodName)) ∈ xWs := xWs_of (lw_T (i := 618) rfl) rfl
set_option maxRecDepth 100000 in
theorem xw619 : (Jvm.Cond.instanceMethod ({ cls := "LintDesk$Tokens", name := "endOf", desc := "(I)I" } : Jvm.MethodName)) ∈ xWs := xWs_of (lw_T (i := 619) rfl) rfl
set_option maxRecDepth 100000 in
theorem xw620 : (Jvm.Cond.selects "LintDesk$Tokens" ({ cls := "LintDesk$Tokens", name := "endOf", desc := "(I)I" } : Jvm.MethodName) ({ cls := "LintDesk$Tokens", name := "endOf", desc := "(I)I" } : Jvm.MethodName)) ∈ xWs := xWs_of (lw_T (i := 620) rfl) rfl
set_option maxRecDepth 100000 in
theorem xw621 : (Jvm.Cond.code ({ cls := "LintDesk$Tokens", name := "endOf", desc := "(I)I" } : Jvm.MethodName) prog_12_method_11_code (2 : Nat) (Option.some Jvm.ClassFile.FieldType.int)) ∈ xWs := xWs_of (lw_T (i := 621) rfl) rfl
set_option maxRecDepth 100000 in
theorem xw622 : (Jvm.Cond.methodLink "LintDesk$Tokens" (139 : Nat) ({ cls := "LintDesk$Tokens", name := "startOf", desc := "(I)I" } : Jvm.MethodName)) ∈ xWs := xWs_of (lw_T (i := 622) rfl) rfl
set_option maxRecDepth 100000 in
theorem xw623 : (Jvm.Cond.instanceMethod ({ cls := "LintDesk$Tokens", name := "startOf", desc := "(I)I" } : Jvm.MethodName)) ∈ xWs := xWs_of (lw_T (i := 623) rfl) rfl
set_option maxRecDepth 100000 in
theorem xw624 : (Jvm.Cond.selects "LintDesk$Tokens" ({ cls := "LintDesk$Tokens", name := "startOf", desc := "(I)I" } : Jvm.MethodName) ({ cls := "LintDesk$Tokens", name := "startOf", desc := "(I)I" } : Jvm.MethodName)) ∈ xWs := xWs_of (lw_T (i := 624) rfl) rfl
set_option maxRecDepth 100000 in
theorem xw625 : (Jvm.Cond.code ({ cls := "LintDesk$Tokens", name := "startOf", desc := "(I)I" } : Jvm.MethodName) prog_12_method_10_code (2 : Nat) (Option.some Jvm.ClassFile.FieldType.int)) ∈ xWs := xWs_of (lw_T (i := 625) rfl) rfl
set_option maxRecDepth 100000 in
theorem xw626 : (Jvm.Cond.methodLink "LintDesk$Parser" (179 : Nat) ({ cls := "LintDesk$Marks", name := "excuse", desc := "(III)V" } : Jvm.MethodName)) ∈ xWs := xWs_of (lw_T (i := 626) rfl) rfl
set_option maxRecDepth 100000 in
theorem xw627 : (Jvm.Cond.instanceMethod ({ cls := "LintDesk$Marks", name := "excuse", desc := "(III)V" } : Jvm.MethodName)) ∈ xWs := xWs_of (lw_T (i := 627) rfl) rfl
set_option maxRecDepth 100000 in
theorem xw628 : (Jvm.Cond.selects "LintDesk$Marks" ({ cls := "LintDesk$Marks", name := "excuse", desc := "(III)V" } : Jvm.MethodName) ({ cls := "LintDesk$Marks", name := "excuse", desc := "(III)V" } : Jvm.MethodName)) ∈ xWs := xWs_of (lw_T (i := 628) rfl) rfl
set_option maxRecDepth 100000 in
theorem xw629 : (Jvm.Cond.code ({ cls := "LintDesk$Marks", name := "excuse", desc := "(III)V" } : Jvm.MethodName) prog_5_method_5_code (5 : Nat) (Option.none : Option Jvm.ClassFile.FieldType)) ∈ xWs := xWs_of (lw_T (i := 629) rfl) rfl
set_option maxRecDepth 100000 in
theorem xw630 : (Jvm.Cond.methodLink "LintDesk$Parser" (122 : Nat) ({ cls := "LintDesk$Parser", name := "nothing", desc := "(Z)Z" } : Jvm.MethodName)) ∈ xWs := xWs_of (lw_T (i := 630) rfl) rfl
set_option maxRecDepth 100000 in
theorem xw632 : (Jvm.Cond.instanceMethod ({ cls := "LintDesk$Parser", name := "nothing", desc := "(Z)Z" } : Jvm.MethodName)) ∈ xWs := xWs_of (lw_T (i := 632) rfl) rfl
set_option maxRecDepth 100000 in
theorem xw633 : (Jvm.Cond.code ({ cls := "LintDesk$Parser", name := "nothing", desc := "(Z)Z" } : Jvm.MethodName) prog_6_method_7_code (2 : Nat) (Option.some Jvm.ClassFile.FieldType.boolean)) ∈ xWs := xWs_of (lw_T (i := 633) rfl) rfl
set_option maxRecDepth 100000 in
theorem xw634 : (Jvm.Cond.fieldLink "LintDesk$Parser" (83 : Nat) "LintDesk$Token" "RETURN" "LLintDesk$Token;") ∈ xWs := xWs_of (lw_T (i := 634) rfl) rfl
set_option maxRecDepth 100000 in
theorem xw636 : (Jvm.Cond.methodLink "LintDesk$Parser" (59 : Nat) ({ cls := "LintDesk$Tokens", name := "startOf", desc := "(I)I" } : Jvm.MethodName)) ∈ xWs := xWs_of (lw_T (i := 636) rfl) rfl
set_option maxRecDepth 100000 in
theorem xw637 : (Jvm.Cond.methodLink "LintDesk$Reading" (48 : Nat) ({ cls := "LintDesk$Binder", name := "bindAll", desc := "()V" } : Jvm.MethodName)) ∈ xWs := xWs_of (lw_T (i := 637) rfl) rfl
set_option maxRecDepth 100000 in
theorem xw638 : (Jvm.Cond.instanceMethod ({ cls := "LintDesk$Binder", name := "bindAll", desc := "()V" } : Jvm.MethodName)) ∈ xWs := xWs_of (lw_T (i := 638) rfl) rfl
set_option maxRecDepth 100000 in
theorem xw639 : (Jvm.Cond.selects "LintDesk$Binder" ({ cls := "LintDesk$Binder", name := "bindAll", desc := "()V" } : Jvm.MethodName) ({ cls := "LintDesk$Binder", name := "bindAll", desc := "()V" } : Jvm.MethodName)) ∈ xWs := xWs_of (lw_T (i := 639) rfl) rfl
set_option maxRecDepth 100000 in
theorem xw640 : (Jvm.Cond.code ({ cls := "LintDesk$Binder", name := "bindAll", desc := "()V" } : Jvm.MethodName) prog_3_method_5_code (2 : Nat) (Option.none : Option Jvm.ClassFile.FieldType)) ∈ xWs := xWs_of (lw_T (i := 640) rfl) rfl
set_option maxRecDepth 100000 in
theorem xw641 : (Jvm.Cond.methodLink "LintDesk$Binder" (82 : Nat) ({ cls := "LintDesk$Binder", name := "bind", desc := "(I)V" } : Jvm.MethodName)) ∈ xWs := xWs_of (lw_T (i := 641) rfl) rfl
set_option maxRecDepth 100000 in
theorem xw643 : (Jvm.Cond.instanceMethod ({ cls := "LintDesk$Binder", name := "bind", desc := "(I)V" } : Jvm.MethodName)) ∈ xWs := xWs_of (lw_T (i := 643) rfl) rfl
set_option maxRecDepth 100000 in
theorem xw644 : (Jvm.Cond.code ({ cls := "LintDesk$Binder", name := "bind", desc := "(I)V" } : Jvm.MethodName) prog_3_method_6_code (3 : Nat) (Option.none : Option Jvm.ClassFile.FieldType)) ∈ xWs := xWs_of (lw_T (i := 644) rfl) rfl
set_option maxRecDepth 100000 in
theorem xw645 : (Jvm.Cond.methodLink "LintDesk$Binder" (89 : Nat) ({ cls := "LintDesk$Binder", name := "seenFrom", desc := "(II)I" } : Jvm.MethodName)) ∈ xWs := xWs_of (lw_T (i := 645) rfl) rfl
set_option maxRecDepth 100000 in
theorem xw647 : (Jvm.Cond.instanceMethod ({ cls := "LintDesk$Binder", name := "seenFrom", desc := "(II)I" } : Jvm.MethodName)) ∈ xWs := xWs_of (lw_T (i := 647) rfl) rfl
set_option maxRecDepth 100000 in
theorem xw648 : (Jvm.Cond.code ({ cls := "LintDesk$Binder", name := "seenFrom", desc := "(II)I" } : Jvm.MethodName) prog_3_method_7_code (6 : Nat) (Option.some Jvm.ClassFile.FieldType.int)) ∈ xWs := xWs_of (lw_T (i := 648) rfl) rfl
set_option maxRecDepth 100000 in
theorem xw649 : (Jvm.Cond.methodLink "LintDesk$Binder" (99 : Nat) ({ cls := "LintDesk$Scopes", name := "levelOf", desc := "(I)I" } : Jvm.MethodName)) ∈ xWs := xWs_of (lw_T (i := 649) rfl) rfl
set_option maxRecDepth 100000 in
theorem xw650 : (Jvm.Cond.instanceMethod ({ cls := "LintDesk$Scopes", name := "levelOf", desc := "(I)I" } : Jvm.MethodName)) ∈ xWs := xWs_of (lw_T (i := 650) rfl) rfl
set_option maxRecDepth 100000 in
theorem xw651 : (Jvm.Cond.selects "LintDesk$Scopes" ({ cls := "LintDesk$Scopes", name := "levelOf", desc := "(I)I" } : Jvm.MethodName) ({ cls := "LintDesk$Scopes", name := "levelOf", desc := "(I)I" } : Jvm.MethodName)) ∈ xWs := xWs_of (lw_T (i := 651) rfl) rfl
set_option maxRecDepth 100000 in
theorem xw652 : (Jvm.Cond.code ({ cls := "LintDesk$Scopes", name := "levelOf", desc := "(I)I" } : Jvm.MethodName) prog_8_method_7_code (2 : Nat) (Option.some Jvm.ClassFile.FieldType.int)) ∈ xWs := xWs_of (lw_T (i := 652) rfl) rfl
set_option maxRecDepth 100000 in
theorem xw653 : (Jvm.Cond.methodLink "LintDesk$Binder" (104 : Nat) ({ cls := "LintDesk$Scopes", name := "aroundOf", desc := "(I)I" } : Jvm.MethodName)) ∈ xWs := xWs_of (lw_T (i := 653) rfl) rfl
set_option maxRecDepth 100000 in
theorem xw654 : (Jvm.Cond.instanceMethod ({ cls := "LintDesk$Scopes", name := "aroundOf", desc := "(I)I" } : Jvm.MethodName)) ∈ xWs := xWs_of (lw_T (i := 654) rfl) rfl
set_option maxRecDepth 100000 in
theorem xw655 : (Jvm.Cond.selects "LintDesk$Scopes" ({ cls := "LintDesk$Scopes", name := "aroundOf", desc := "(I)I" } : Jvm.MethodName) ({ cls := "LintDesk$Scopes", name := "aroundOf", desc := "(I)I" } : Jvm.MethodName)) ∈ xWs := xWs_of (lw_T (i := 655) rfl) rfl
set_option maxRecDepth 100000 in
theorem xw656 : (Jvm.Cond.code ({ cls := "LintDesk$Scopes", name := "aroundOf", desc := "(I)I" } : Jvm.MethodName) prog_8_method_5_code (2 : Nat) (Option.some Jvm.ClassFile.FieldType.int)) ∈ xWs := xWs_of (lw_T (i := 656) rfl) rfl
set_option maxRecDepth 100000 in
theorem xw657 : (Jvm.Cond.methodLink "LintDesk$Binder" (95 : Nat) ({ cls := "LintDesk$Binder", name := "isEarly", desc := "(II)Z" } : Jvm.MethodName)) ∈ xWs := xWs_of (lw_T (i := 657) rfl) rfl
set_option maxRecDepth 100000 in
theorem xw659 : (Jvm.Cond.instanceMethod ({ cls := "LintDesk$Binder", name := "isEarly", desc := "(II)Z" } : Jvm.MethodName)) ∈ xWs := xWs_of (lw_T (i := 659) rfl) rfl
set_option maxRecDepth 100000 in
theorem xw660 : (Jvm.Cond.code ({ cls := "LintDesk$Binder", name := "isEarly", desc := "(II)Z" } : Jvm.MethodName) prog_3_method_8_code (4 : Nat) (Option.some Jvm.ClassFile.FieldType.boolean)) ∈ xWs := xWs_of (lw_T (i := 660) rfl) rfl
set_option maxRecDepth 100000 in
theorem xw661 : (Jvm.Cond.methodLink "LintDesk$Binder" (110 : Nat) ({ cls := "LintDesk$Scopes", name := "homeOf", desc := "(I)I" } : Jvm.MethodName)) ∈ xWs := xWs_of (lw_T (i := 661) rfl) rfl
set_option maxRecDepth 100000 in
theorem xw662 : (Jvm.Cond.methodLink "LintDesk$Binder" (86 : Nat) ({ cls := "LintDesk$Binder", name := "judge", desc := "(I)V" } : Jvm.MethodName)) ∈ xWs := xWs_of (lw_T (i := 662) rfl) rfl
set_option maxRecDepth 100000 in
theorem xw664 : (Jvm.Cond.instanceMethod ({ cls := "LintDesk$Binder", name := "judge", desc := "(I)V" } : Jvm.MethodName)) ∈ xWs := xWs_of (lw_T (i := 664) rfl) rfl
set_option maxRecDepth 100000 in
theorem xw665 : (Jvm.Cond.code ({ cls := "LintDesk$Binder", name := "judge", desc := "(I)V" } : Jvm.MethodName) prog_3_method_9_code (4 : Nat) (Option.none : Option Jvm.ClassFile.FieldType)) ∈ xWs := xWs_of (lw_T (i := 665) rfl) rfl
set_option maxRecDepth 100000 in
theorem xw666 : (Jvm.Cond.methodLink "LintDesk$Binder" (115 : Nat) ({ cls := "LintDesk$Things", name := "isParameter", desc := "(I)Z" } : Jvm.MethodName)) ∈ xWs := xWs_of (lw_T (i := 666) rfl) rfl
set_option maxRecDepth 100000 in
theorem xw667 : (Jvm.Cond.instanceMethod ({ cls := "LintDesk$Things", name := "isParameter", desc := "(I)Z" } : Jvm.MethodName)) ∈ xWs := xWs_of (lw_T (i := 667) rfl) rfl
set_option maxRecDepth 100000 in
theorem xw668 : (Jvm.Cond.selects "LintDesk$Things" ({ cls := "LintDesk$Things", name := "isParameter", desc := "(I)Z" } : Jvm.MethodName) ({ cls := "LintDesk$Things", name := "isParameter", desc := "(I)Z" } : Jvm.MethodName)) ∈ xWs := xWs_of (lw_T (i := 668) rfl) rfl
set_option maxRecDepth 100000 in
theorem xw669 : (Jvm.Cond.code ({ cls := "LintDesk$Things", name := "isParameter", desc := "(I)Z" } : Jvm.MethodName) prog_10_method_6_code (2 : Nat) (Option.some Jvm.ClassFile.FieldType.boolean)) ∈ xWs := xWs_of (lw_T (i := 669) rfl) rfl
set_option maxRecDepth 100000 in
theorem xw670 : (Jvm.Cond.methodLink "LintDesk$Binder" (119 : Nat) ({ cls := "LintDesk$Things", name := "isHeldByLater", desc := "(I)Z" } : Jvm.MethodName)) ∈ xWs := xWs_of (lw_T (i := 670) rfl) rfl
set_option maxRecDepth 100000 in
theorem xw671 : (Jvm.Cond.instanceMethod ({ cls := "LintDesk$Things", name := "isHeldByLater", desc := "(I)Z" } : Jvm.MethodName)) ∈ xWs := xWs_of (lw_T (i := 671) rfl) rfl
set_option maxRecDepth 100000 in
theorem xw672 : (Jvm.Cond.selects "LintDesk$Things" ({ cls := "LintDesk$Things", name := "isHeldByLater", desc := "(I)Z" } : Jvm.MethodName) ({ cls := "LintDesk$Things", name := "isHeldByLater", desc := "(I)Z" } : Jvm.MethodName)) ∈ xWs := xWs_of (lw_T (i := 672) rfl) rfl
set_option maxRecDepth 100000 in
theorem xw673 : (Jvm.Cond.code ({ cls := "LintDesk$Things", name := "isHeldByLater", desc := "(I)Z" } : Jvm.MethodName) prog_10_method_7_code (3 : Nat) (Option.some Jvm.ClassFile.FieldType.boolean)) ∈ xWs := xWs_of (lw_T (i := 673) rfl) rfl
set_option maxRecDepth 100000 in
theorem xw674 : (Jvm.Cond.methodLink "LintDesk$Things" (41 : Nat) ({ cls := "LintDesk$Things", name := "isParameter", desc := "(I)Z" } : Jvm.MethodName)) ∈ xWs := xWs_of (lw_T (i := 674) rfl) rfl
set_option maxRecDepth 100000 in
theorem xw675 : (Jvm.Cond.methodLink "LintDesk$Things" (45 : Nat) ({ cls := "LintDesk$Things", name := "isRead", desc := "(I)Z" } : Jvm.MethodName)) ∈ xWs := xWs_of (lw_T (i := 675) rfl) rfl
set_option maxRecDepth 100000 in
theorem xw676 : (Jvm.Cond.instanceMethod ({ cls := "LintDesk$Things", name := "isRead", desc := "(I)Z" } : Jvm.MethodName)) ∈ xWs := xWs_of (lw_T (i := 676) rfl) rfl
set_option maxRecDepth 100000 in
theorem xw677 : (Jvm.Cond.selects "LintDesk$Things" ({ cls := "LintDesk$Things", name := "isRead", desc := "(I)Z" } : Jvm.MethodName) ({ cls := "LintDesk$Things", name := "isRead", desc := "(I)Z" } : Jvm.MethodName)) ∈ xWs := xWs_of (lw_T (i := 677) rfl) rfl
set_option maxRecDepth 100000 in
theorem xw678 : (Jvm.Cond.code ({ cls := "LintDesk$Things", name := "isRead", desc := "(I)Z" } : Jvm.MethodName) prog_10_method_5_code (2 : Nat) (Option.some Jvm.ClassFile.FieldType.boolean)) ∈ xWs := xWs_of (lw_T (i := 678) rfl) rfl
set_option maxRecDepth 100000 in
theorem xw679 : (Jvm.Cond.methodLink "LintDesk$Binder" (122 : Nat) ({ cls := "LintDesk$Things", name := "isRead", desc := "(I)Z" } : Jvm.MethodName)) ∈ xWs := xWs_of (lw_T (i := 679) rfl) rfl
set_option maxRecDepth 100000 in
theorem xw680 : (Jvm.Cond.methodLink "LintDesk$Binder" (125 : Nat) ({ cls := "LintDesk$Binder", name := "isShadow", desc := "(I)Z" } : Jvm.MethodName)) ∈ xWs := xWs_of (lw_T (i := 680) rfl) rfl
set_option maxRecDepth 100000 in
theorem xw682 : (Jvm.Cond.instanceMethod ({ cls := "LintDesk$Binder", name := "isShadow", desc := "(I)Z" } : Jvm.MethodName)) ∈ xWs := xWs_of (lw_T (i := 682) rfl) rfl
set_option maxRecDepth 100000 in
theorem xw683 : (Jvm.Cond.code ({ cls := "LintDesk$Binder", name := "isShadow", desc := "(I)Z" } : Jvm.MethodName) prog_3_method_10_code (3 : Nat) (Option.some Jvm.ClassFile.FieldType.boolean)) ∈ xWs := xWs_of (lw_T (i := 683) rfl) rfl
set_option maxRecDepth 100000 in
theorem xw684 : (Jvm.Cond.methodLink "LintDesk$Binder" (128 : Nat) ({ cls := "LintDesk$Things", name := "couldBeConst", desc := "(I)Z" } : Jvm.MethodName)) ∈ xWs := xWs_of (lw_T (i := 684) rfl) rfl
set_option maxRecDepth 100000 in
theorem xw685 : (Jvm.Cond.instanceMethod ({ cls := "LintDesk$Things", name := "couldBeConst", desc := "(I)Z" } : Jvm.MethodName)) ∈ xWs := xWs_of (lw_T (i := 685) rfl) rfl
set_option maxRecDepth 100000 in
theorem xw686 : (Jvm.Cond.selects "LintDesk$Things" ({ cls := "LintDesk$Things", name := "couldBeConst", desc := "(I)Z" } : Jvm.MethodName) ({ cls := "LintDesk$Things", name := "couldBeConst", desc := "(I)Z" } : Jvm.MethodName)) ∈ xWs := xWs_of (lw_T (i := 686) rfl) rfl
set_option maxRecDepth 100000 in
theorem xw687 : (Jvm.Cond.code ({ cls := "LintDesk$Things", name := "couldBeConst", desc := "(I)Z" } : Jvm.MethodName) prog_10_method_8_code (2 : Nat) (Option.some Jvm.ClassFile.FieldType.boolean)) ∈ xWs := xWs_of (lw_T (i := 687) rfl) rfl
set_option maxRecDepth 100000 in
theorem xw688 : (Jvm.Cond.fieldLink "LintDesk" (12 : Nat) "LintDesk" "written" "LLintDesk$Letters;") ∈ xWs := xWs_of (lw_T (i := 688) rfl) rfl
set_option maxRecDepth 100000 in
theorem xw689 : (Jvm.Cond.fieldLink "LintDesk" (19 : Nat) "LintDesk" "settings" "LLintDesk$Settings;") ∈ xWs := xWs_of (lw_T (i := 689) rfl) rfl
set_option maxRecDepth 100000 in
theorem xw690 : (Jvm.Cond.fieldLink "LintDesk" (27 : Nat) "LintDesk" "source" "LLintDesk$Reading;") ∈ xWs := xWs_of (lw_T (i := 690) rfl) rfl
set_option maxRecDepth 100000 in
theorem xw691 : (Jvm.Cond.fieldLink "LintDesk" (31 : Nat) "LintDesk" "spare" "LLintDesk$Reading;") ∈ xWs := xWs_of (lw_T (i := 691) rfl) rfl
set_option maxRecDepth 100000 in
theorem xw692 : (Jvm.Cond.fieldLink "LintDesk" (40 : Nat) "LintDesk" "wrongPlace" "I") ∈ xWs := xWs_of (lw_T (i := 692) rfl) rfl
set_option maxRecDepth 100000 in
theorem xw693 : (Jvm.Cond.fieldLink "LintDesk" (157 : Nat) "LintDesk" "rounds" "I") ∈ xWs := xWs_of (lw_T (i := 693) rfl) rfl
set_option maxRecDepth 100000 in
theorem xw694 : (Jvm.Cond.laysFinal "LintDesk" "LintDesk" "written" "LLintDesk$Letters;") ∈ xWs := xWs_of (lw_T (i := 694) rfl) rfl
set_option maxRecDepth 100000 in
theorem xw696 : (Jvm.Cond.laysFinal "LintDesk" "LintDesk" "settings" "LLintDesk$Settings;") ∈ xWs := xWs_of (lw_T (i := 696) rfl) rfl
set_option maxRecDepth 100000 in
theorem xw698 : (Jvm.Cond.lays "LintDesk" "LintDesk" "source" "LLintDesk$Reading;") ∈ xWs := xWs_of (lw_T (i := 698) rfl) rfl
set_option maxRecDepth 100000 in
theorem xw700 : (Jvm.Cond.lays "LintDesk" "LintDesk" "spare" "LLintDesk$Reading;") ∈ xWs := xWs_of (lw_T (i := 700) rfl) rfl
set_option maxRecDepth 100000 in
theorem xw702 : (Jvm.Cond.lays "LintDesk" "LintDesk" "wrongPlace" "I") ∈ xWs := xWs_of (lw_T (i := 702) rfl) rfl
set_option maxRecDepth 100000 in
theorem xw704 : (Jvm.Cond.lays "LintDesk" "LintDesk" "rounds" "I") ∈ xWs := xWs_of (lw_T (i := 704) rfl) rfl
set_option maxRecDepth 100000 in
theorem xw707 : (Jvm.Cond.methodLink "LintDeskLaw" (66 : Nat) ({ cls := "LintDesk", name := "wrong", desc := "()I" } : Jvm.MethodName)) ∈ xWs := xWs_of (lw_T (i := 707) rfl) rfl
set_option maxRecDepth 100000 in
theorem xw708 : (Jvm.Cond.instanceMethod ({ cls := "LintDesk", name := "wrong", desc := "()I" } : Jvm.MethodName)) ∈ xWs := xWs_of (lw_T (i := 708) rfl) rfl
set_option maxRecDepth 100000 in
theorem xw709 : (Jvm.Cond.selects "LintDesk" ({ cls := "LintDesk", name := "wrong", desc := "()I" } : Jvm.MethodName) ({ cls := "LintDesk", name := "wrong", desc := "()I" } : Jvm.MethodName)) ∈ xWs := xWs_of (lw_T (i := 709) rfl) rfl
set_option maxRecDepth 100000 in
theorem xw710 : (Jvm.Cond.code ({ cls := "LintDesk", name := "wrong", desc := "()I" } : Jvm.MethodName) prog_1_method_4_code (1 : Nat) (Option.some Jvm.ClassFile.FieldType.int)) ∈ xWs := xWs_of (lw_T (i := 710) rfl) rfl
set_option maxRecDepth 100000 in
theorem xw711 : (Jvm.Cond.methodLink "LintDeskLaw" (84 : Nat) ({ cls := "LintDesk", name := "mend", desc := "()I" } : Jvm.MethodName)) ∈ xWs := xWs_of (lw_T (i := 711) rfl) rfl
set_option maxRecDepth 100000 in
theorem xw712 : (Jvm.Cond.instanceMethod ({ cls := "LintDesk", name := "mend", desc := "()I" } : Jvm.MethodName)) ∈ xWs := xWs_of (lw_T (i := 712) rfl) rfl
set_option maxRecDepth 100000 in
theorem xw713 : (Jvm.Cond.selects "LintDesk" ({ cls := "LintDesk", name := "mend", desc := "()I" } : Jvm.MethodName) ({ cls := "LintDesk", name := "mend", desc := "()I" } : Jvm.MethodName)) ∈ xWs := xWs_of (lw_T (i := 713) rfl) rfl
set_option maxRecDepth 100000 in
theorem xw714 : (Jvm.Cond.code ({ cls := "LintDesk", name := "mend", desc := "()I" } : Jvm.MethodName) prog_1_method_9_code (4 : Nat) (Option.some Jvm.ClassFile.FieldType.int)) ∈ xWs := xWs_of (lw_T (i := 714) rfl) rfl
set_option maxRecDepth 100000 in
theorem xw715 : (Jvm.Cond.methodLink "LintDesk" (160 : Nat) ({ cls := "LintDesk$Settings", name := "mendablesIn", desc := "(LLintDesk$Reading;)I" } : Jvm.MethodName)) ∈ xWs := xWs_of (lw_T (i := 715) rfl) rfl
set_option maxRecDepth 100000 in
theorem xw716 : (Jvm.Cond.instanceMethod ({ cls := "LintDesk$Settings", name := "mendablesIn", desc := "(LLintDesk$Reading;)I" } : Jvm.MethodName)) ∈ xWs := xWs_of (lw_T (i := 716) rfl) rfl
set_option maxRecDepth 100000 in
theorem xw717 : (Jvm.Cond.selects "LintDesk$Settings" ({ cls := "LintDesk$Settings", name := "mendablesIn", desc := "(LLintDesk$Reading;)I" } : Jvm.MethodName) ({ cls := "LintDesk$Settings", name := "mendablesIn", desc := "(LLintDesk$Reading;)I" } : Jvm.MethodName)) ∈ xWs := xWs_of (lw_T (i := 717) rfl) rfl
set_option maxRecDepth 100000 in
theorem xw718 : (Jvm.Cond.code ({ cls := "LintDesk$Settings", name := "mendablesIn", desc := "(LLintDesk$Reading;)I" } : Jvm.MethodName) prog_9_method_11_code (4 : Nat) (Option.some Jvm.ClassFile.FieldType.int)) ∈ xWs := xWs_of (lw_T (i := 718) rfl) rfl
set_option maxRecDepth 100000 in
theorem xw719 : (Jvm.Cond.methodLink "LintDesk$Settings" (65 : Nat) ({ cls := "LintDesk$Settings", name := "mendableAt", desc := "(LLintDesk$Reading;I)I" } : Jvm.MethodName)) ∈ xWs := xWs_of (lw_T (i := 719) rfl) rfl
set_option maxRecDepth 100000 in
theorem xw720 : (Jvm.Cond.instanceMethod ({ cls := "LintDesk$Settings", name := "mendableAt", desc := "(LLintDesk$Reading;I)I" } : Jvm.MethodName)) ∈ xWs := xWs_of (lw_T (i := 720) rfl) rfl
set_option maxRecDepth 100000 in
theorem xw721 : (Jvm.Cond.selects "LintDesk$Settings" ({ cls := "LintDesk$Settings", name := "mendableAt", desc := "(LLintDesk$Reading;I)I" } : Jvm.MethodName) ({ cls := "LintDesk$Settings", name := "mendableAt", desc := "(LLintDesk$Reading;I)I" } : Jvm.MethodName)) ∈ xWs := xWs_of (lw_T (i := 721) rfl) rfl
set_option maxRecDepth 100000 in
theorem xw722 : (Jvm.Cond.code ({ cls := "LintDesk$Settings", name := "mendableAt", desc := "(LLintDesk$Reading;I)I" } : Jvm.MethodName) prog_9_method_12_code (6 : Nat) (Option.some Jvm.ClassFile.FieldType.int)) ∈ xWs := xWs_of (lw_T (i := 722) rfl) rfl
set_option maxRecDepth 100000 in
theorem xw723 : (Jvm.Cond.methodLink "LintDesk$Settings" (57 : Nat) ({ cls := "LintDesk$Settings", name := "findingsAt", desc := "(LLintDesk$Reading;I)I" } : Jvm.MethodName)) ∈ xWs := xWs_of (lw_T (i := 723) rfl) rfl
set_option maxRecDepth 100000 in
theorem xw725 : (Jvm.Cond.instanceMethod ({ cls := "LintDesk$Settings", name := "findingsAt", desc := "(LLintDesk$Reading;I)I" } : Jvm.MethodName)) ∈ xWs := xWs_of (lw_T (i := 725) rfl) rfl
set_option maxRecDepth 100000 in
theorem xw726 : (Jvm.Cond.code ({ cls := "LintDesk$Settings", name := "findingsAt", desc := "(LLintDesk$Reading;I)I" } : Jvm.MethodName) prog_9_method_7_code (3 : Nat) (Option.some Jvm.ClassFile.FieldType.int)) ∈ xWs := xWs_of (lw_T (i := 726) rfl) rfl
set_option maxRecDepth 100000 in
theorem xw727 : (Jvm.Cond.methodLink "LintDesk$Settings" (48 : Nat) ({ cls := "LintDesk$Settings", name := "rulesAt", desc := "(LLintDesk$Reading;I)I" } : Jvm.MethodName)) ∈ xWs := xWs_of (lw_T (i := 727) rfl) rfl
set_option maxRecDepth 100000 in
theorem xw729 : (Jvm.Cond.instanceMethod ({ cls := "LintDesk$Settings", name := "rulesAt", desc := "(LLintDesk$Reading;I)I" } : Jvm.MethodName)) ∈ xWs := xWs_of (lw_T (i := 729) rfl) rfl
set_option maxRecDepth 100000 in
theorem xw730 : (Jvm.Cond.code ({ cls := "LintDesk$Settings", name := "rulesAt", desc := "(LLintDesk$Reading;I)I" } : Jvm.MethodName) prog_9_method_6_code (5 : Nat) (Option.some Jvm.ClassFile.FieldType.int)) ∈ xWs := xWs_of (lw_T (i := 730) rfl) rfl
set_option maxRecDepth 100000 in
theorem xw731 : (Jvm.Cond.methodLink "LintDesk$Settings" (28 : Nat) ({ cls := "LintDesk$Marks", name := "rulesAt", desc := "(I)I" } : Jvm.MethodName)) ∈ xWs := xWs_of (lw_T (i := 731) rfl) rfl
set_option maxRecDepth 100000 in
theorem xw732 : (Jvm.Cond.instanceMethod ({ cls := "LintDesk$Marks", name := "rulesAt", desc := "(I)I" } : Jvm.MethodName)) ∈ xWs := xWs_of (lw_T (i := 732) rfl) rfl
set_option maxRecDepth 100000 in
theorem xw733 : (Jvm.Cond.selects "LintDesk$Marks" ({ cls := "LintDesk$Marks", name := "rulesAt", desc := "(I)I" } : Jvm.MethodName) ({ cls := "LintDesk$Marks", name := "rulesAt", desc := "(I)I" } : Jvm.MethodName)) ∈ xWs := xWs_of (lw_T (i := 733) rfl) rfl
set_option maxRecDepth 100000 in
theorem xw734 : (Jvm.Cond.code ({ cls := "LintDesk$Marks", name := "rulesAt", desc := "(I)I" } : Jvm.MethodName) prog_5_method_7_code (2 : Nat) (Option.some Jvm.ClassFile.FieldType.int)) ∈ xWs := xWs_of (lw_T (i := 734) rfl) rfl
set_option maxRecDepth 100000 in
theorem xw735 : (Jvm.Cond.methodLink "LintDesk$Settings" (38 : Nat) ({ cls := "LintDesk$Tokens", name := "octetsOf", desc := "(I)J" } : Jvm.MethodName)) ∈ xWs := xWs_of (lw_T (i := 735) rfl) rfl
set_option maxRecDepth 100000 in
theorem xw736 : (Jvm.Cond.instanceMethod ({ cls := "LintDesk$Tokens", name := "octetsOf", desc := "(I)J" } : Jvm.MethodName)) ∈ xWs := xWs_of (lw_T (i := 736) rfl) rfl
set_option maxRecDepth 100000 in
theorem xw737 : (Jvm.Cond.selects "LintDesk$Tokens" ({ cls := "LintDesk$Tokens", name := "octetsOf", desc := "(I)J" } : Jvm.MethodName) ({ cls := "LintDesk$Tokens", name := "octetsOf", desc := "(I)J" } : Jvm.MethodName)) ∈ xWs := xWs_of (lw_T (i := 737) rfl) rfl
set_option maxRecDepth 100000 in
theorem xw738 : (Jvm.Cond.code ({ cls := "LintDesk$Tokens", name := "octetsOf", desc := "(I)J" } : Jvm.MethodName) prog_12_method_13_code (2 : Nat) (Option.some Jvm.ClassFile.FieldType.long)) ∈ xWs := xWs_of (lw_T (i := 738) rfl) rfl
set_option maxRecDepth 100000 in
theorem xw739 : (Jvm.Cond.methodLink "LintDesk$Settings" (44 : Nat) ({ cls := "LintDesk$Settings", name := "isGiven", desc := "(J)Z" } : Jvm.MethodName)) ∈ xWs := xWs_of (lw_T (i := 739) rfl) rfl
set_option maxRecDepth 100000 in
theorem xw740 : (Jvm.Cond.instanceMethod ({ cls := "LintDesk$Settings", name := "isGiven", desc := "(J)Z" } : Jvm.MethodName)) ∈ xWs := xWs_of (lw_T (i := 740) rfl) rfl
set_option maxRecDepth 100000 in
theorem xw741 : (Jvm.Cond.selects "LintDesk$Settings" ({ cls := "LintDesk$Settings", name := "isGiven", desc := "(J)Z" } : Jvm.MethodName) ({ cls := "LintDesk$Settings", name := "isGiven", desc := "(J)Z" } : Jvm.MethodName)) ∈ xWs := xWs_of (lw_T (i := 741) rfl) rfl
set_option maxRecDepth 100000 in
theorem xw742 : (Jvm.Cond.code ({ cls := "LintDesk$Settings", name := "isGiven", desc := "(J)Z" } : Jvm.MethodName) prog_9_method_4_code (4 : Nat) (Option.some Jvm.ClassFile.FieldType.boolean)) ∈ xWs := xWs_of (lw_T (i := 742) rfl) rfl
set_option maxRecDepth 100000 in
theorem xw743 : (Jvm.Cond.methodLink "LintDesk$Settings" (51 : Nat) ({ cls := "LintDesk$Marks", name := "excusedAt", desc := "(I)I" } : Jvm.MethodName)) ∈ xWs := xWs_of (lw_T (i := 743) rfl) rfl
set_option maxRecDepth 100000 in
theorem xw744 : (Jvm.Cond.instanceMethod ({ cls := "LintDesk$Marks", name := "excusedAt", desc := "(I)I" } : Jvm.MethodName)) ∈ xWs := xWs_of (lw_T (i := 744) rfl) rfl
set_option maxRecDepth 100000 in
theorem xw745 : (Jvm.Cond.selects "LintDesk$Marks" ({ cls := "LintDesk$Marks", name := "excusedAt", desc := "(I)I" } : Jvm.MethodName) ({ cls := "LintDesk$Marks", name := "excusedAt", desc := "(I)I" } : Jvm.MethodName)) ∈ xWs := xWs_of (lw_T (i := 745) rfl) rfl
set_option maxRecDepth 100000 in
theorem xw746 : (Jvm.Cond.code ({ cls := "LintDesk$Marks", name := "excusedAt", desc := "(I)I" } : Jvm.MethodName) prog_5_method_8_code (2 : Nat) (Option.some Jvm.ClassFile.FieldType.int)) ∈ xWs := xWs_of (lw_T (i := 746) rfl) rfl
set_option maxRecDepth 100000 in
theorem xw747 : (Jvm.Cond.methodLink "LintDesk$Settings" (68 : Nat) ({ cls := "LintDesk$Marks", name := "isLoose", desc := "(I)Z" } : Jvm.MethodName)) ∈ xWs := xWs_of (lw_T (i := 747) rfl) rfl
set_option maxRecDepth 100000 in
theorem xw748 : (Jvm.Cond.instanceMethod ({ cls := "LintDesk$Marks", name := "isLoose", desc := "(I)Z" } : Jvm.MethodName)) ∈ xWs := xWs_of (lw_T (i := 748) rfl) rfl
set_option maxRecDepth 100000 in
theorem xw749 : (Jvm.Cond.selects "LintDesk$Marks" ({ cls := "LintDesk$Marks", name := "isLoose", desc := "(I)Z" } : Jvm.MethodName) ({ cls := "LintDesk$Marks", name := "isLoose", desc := "(I)Z" } : Jvm.MethodName)) ∈ xWs := xWs_of (lw_T (i := 749) rfl) rfl
set_option maxRecDepth 100000 in
theorem xw750 : (Jvm.Cond.code ({ cls := "LintDesk$Marks", name := "isLoose", desc := "(I)Z" } : Jvm.MethodName) prog_5_method_9_code (2 : Nat) (Option.some Jvm.ClassFile.FieldType.boolean)) ∈ xWs := xWs_of (lw_T (i := 750) rfl) rfl
set_option maxRecDepth 100000 in
theorem xw751 : (Jvm.Cond.methodLink "LintDesk" (163 : Nat) ({ cls := "LintDesk", name := "mendedSize", desc := "()I" } : Jvm.MethodName)) ∈ xWs := xWs_of (lw_T (i := 751) rfl) rfl
set_option maxRecDepth 100000 in
theorem xw753 : (Jvm.Cond.instanceMethod ({ cls := "LintDesk", name := "mendedSize", desc := "()I" } : Jvm.MethodName)) ∈ xWs := xWs_of (lw_T (i := 753) rfl) rfl
set_option maxRecDepth 100000 in
theorem xw754 : (Jvm.Cond.code ({ cls := "LintDesk", name := "mendedSize", desc := "()I" } : Jvm.MethodName) prog_1_method_15_code (4 : Nat) (Option.some Jvm.ClassFile.FieldType.int)) ∈ xWs := xWs_of (lw_T (i := 754) rfl) rfl
set_option maxRecDepth 100000 in
theorem xw755 : (Jvm.Cond.methodLink "LintDesk" (248 : Nat) ({ cls := "LintDesk$Settings", name := "mendableAt", desc := "(LLintDesk$Reading;I)I" } : Jvm.MethodName)) ∈ xWs := xWs_of (lw_T (i := 755) rfl) rfl
set_option maxRecDepth 100000 in
theorem xw756 : (Jvm.Cond.methodLink "LintDesk" (251 : Nat) ({ cls := "LintDesk", name := "mendedText", desc := "(I)Ljava/lang/String;" } : Jvm.MethodName)) ∈ xWs := xWs_of (lw_T (i := 756) rfl) rfl
set_option maxRecDepth 100000 in
theorem xw757 : (Jvm.Cond.static ({ cls := "LintDesk", name := "mendedText", desc := "(I)Ljava/lang/String;" } : Jvm.MethodName)) ∈ xWs := xWs_of (lw_T (i := 757) rfl) rfl
set_option maxRecDepth 100000 in
theorem xw758 : (Jvm.Cond.code ({ cls := "LintDesk", name := "mendedText", desc := "(I)Ljava/lang/String;" } : Jvm.MethodName) prog_1_method_17_code (1 : Nat) (Option.some (Jvm.ClassFile.FieldType.object "java/lang/String"))) ∈ xWs := xWs_of (lw_T (i := 758) rfl) rfl
set_option maxRecDepth 100000 in
theorem xw762 : (Jvm.Cond.methodLink "LintDesk" (255 : Nat) ({ cls := "java/lang/String", name := "length", desc := "()I" } : Jvm.MethodName)) ∈ xWs := xWs_of (lw_T (i := 762) rfl) rfl
set_option maxRecDepth 100000 in
theorem xw763 : (Jvm.Cond.methodLink "LintDesk" (260 : Nat) ({ cls := "LintDesk", name := "mendedTo", desc := "(II)I" } : Jvm.MethodName)) ∈ xWs := xWs_of (lw_T (i := 763) rfl) rfl
set_option maxRecDepth 100000 in
theorem xw765 : (Jvm.Cond.instanceMethod ({ cls := "LintDesk", name := "mendedTo", desc := "(II)I" } : Jvm.MethodName)) ∈ xWs := xWs_of (lw_T (i := 765) rfl) rfl
set_option maxRecDepth 100000 in
theorem xw766 : (Jvm.Cond.code ({ cls := "LintDesk", name := "mendedTo", desc := "(II)I" } : Jvm.MethodName) prog_1_method_19_code (3 : Nat) (Option.some Jvm.ClassFile.FieldType.int)) ∈ xWs := xWs_of (lw_T (i := 766) rfl) rfl
set_option maxRecDepth 100000 in
theorem xw767 : (Jvm.Cond.methodLink "LintDesk" (276 : Nat) ({ cls := "LintDesk$Tokens", name := "endOf", desc := "(I)I" } : Jvm.MethodName)) ∈ xWs := xWs_of (lw_T (i := 767) rfl) rfl
set_option maxRecDepth 100000 in
theorem xw768 : (Jvm.Cond.methodLink "LintDesk" (264 : Nat) ({ cls := "LintDesk", name := "mendedFrom", desc := "(II)I" } : Jvm.MethodName)) ∈ xWs := xWs_of (lw_T (i := 768) rfl) rfl
set_option maxRecDepth 100000 in
theorem xw770 : (Jvm.Cond.instanceMethod ({ cls := "LintDesk", name := "mendedFrom", desc := "(II)I" } : Jvm.MethodName)) ∈ xWs := xWs_of (lw_T (i := 770) rfl) rfl
set_option maxRecDepth 100000 in
theorem xw771 : (Jvm.Cond.code ({ cls := "LintDesk", name := "mendedFrom", desc := "(II)I" } : Jvm.MethodName) prog_1_method_18_code (3 : Nat) (Option.some Jvm.ClassFile.FieldType.int)) ∈ xWs := xWs_of (lw_T (i := 771) rfl) rfl
set_option maxRecDepth 100000 in
theorem xw772 : (Jvm.Cond.methodLink "LintDesk" (151 : Nat) ({ cls := "LintDesk$Tokens", name := "startOf", desc := "(I)I" } : Jvm.MethodName)) ∈ xWs := xWs_of (lw_T (i := 772) rfl) rfl
set_option maxRecDepth 100000 in
theorem xw773 : (Jvm.Cond.methodLink "LintDesk" (166 : Nat) ({ cls := "LintDesk", name := "writeMended", desc := "()V" } : Jvm.MethodName)) ∈ xWs := xWs_of (lw_T (i := 773) rfl) rfl
set_option maxRecDepth 100000 in
theorem xw775 : (Jvm.Cond.instanceMethod ({ cls := "LintDesk", name := "writeMended", desc := "()V" } : Jvm.MethodName)) ∈ xWs := xWs_of (lw_T (i := 775) rfl) rfl
set_option maxRecDepth 100000 in
theorem xw776 : (Jvm.Cond.code ({ cls := "LintDesk", name := "writeMended", desc := "()V" } : Jvm.MethodName) prog_1_method_16_code (5 : Nat) (Option.none : Option Jvm.ClassFile.FieldType)) ∈ xWs := xWs_of (lw_T (i := 776) rfl) rfl
set_option maxRecDepth 100000 in
theorem xw777 : (Jvm.Cond.methodLink "LintDesk" (78 : Nat) ({ cls := "LintDesk$Letters", name := "clear", desc := "()V" } : Jvm.MethodName)) ∈ xWs := xWs_of (lw_T (i := 777) rfl) rfl
set_option maxRecDepth 100000 in
theorem xw778 : (Jvm.Cond.instanceMethod ({ cls := "LintDesk$Letters", name := "clear", desc := "()V" } : Jvm.MethodName)) ∈ xWs := xWs_of (lw_T (i := 778) rfl) rfl
set_option maxRecDepth 100000 in
theorem xw779 : (Jvm.Cond.selects "LintDesk$Letters" ({ cls := "LintDesk$Letters", name := "clear", desc := "()V" } : Jvm.MethodName) ({ cls := "LintDesk$Letters", name := "clear", desc := "()V" } : Jvm.MethodName)) ∈ xWs := xWs_of (lw_T (i := 779) rfl) rfl
set_option maxRecDepth 100000 in
theorem xw780 : (Jvm.Cond.code ({ cls := "LintDesk$Letters", name := "clear", desc := "()V" } : Jvm.MethodName) prog_4_method_3_code (1 : Nat) (Option.none : Option Jvm.ClassFile.FieldType)) ∈ xWs := xWs_of (lw_T (i := 780) rfl) rfl
set_option maxRecDepth 100000 in
theorem xw781 : (Jvm.Cond.methodLink "LintDesk" (81 : Nat) ({ cls := "LintDesk$Letters", name := "addPart", desc := "(LLintDesk$Letters;II)V" } : Jvm.MethodName)) ∈ xWs := xWs_of (lw_T (i := 781) rfl) rfl
set_option maxRecDepth 100000 in
theorem xw782 : (Jvm.Cond.instanceMethod ({ cls := "LintDesk$Letters", name := "addPart", desc := "(LLintDesk$Letters;II)V" } : Jvm.MethodName)) ∈ xWs := xWs_of (lw_T (i := 782) rfl) rfl
set_option maxRecDepth 100000 in
theorem xw783 : (Jvm.Cond.selects "LintDesk$Letters" ({ cls := "LintDesk$Letters", name := "addPart", desc := "(LLintDesk$Letters;II)V" } : Jvm.MethodName) ({ cls := "LintDesk$Letters", name := "addPart", desc := "(LLintDesk$Letters;II)V" } : Jvm.MethodName)) ∈ xWs := xWs_of (lw_T (i := 783) rfl) rfl
set_option maxRecDepth 100000 in
theorem xw784 : (Jvm.Cond.code ({ cls := "LintDesk$Letters", name := "addPart", desc := "(LLintDesk$Letters;II)V" } : Jvm.MethodName) prog_4_method_5_code (5 : Nat) (Option.none : Option Jvm.ClassFile.FieldType)) ∈ xWs := xWs_of (lw_T (i := 784) rfl) rfl
set_option maxRecDepth 100000 in
theorem xw785 : (Jvm.Cond.methodLink "LintDesk$Letters" (23 : Nat) ({ cls := "LintDesk$Letters", name := "add", desc := "(C)V" } : Jvm.MethodName)) ∈ xWs := xWs_of (lw_T (i := 785) rfl) rfl
set_option maxRecDepth 100000 in
theorem xw786 : (Jvm.Cond.instanceMethod ({ cls := "LintDesk$Letters", name := "add", desc := "(C)V" } : Jvm.MethodName)) ∈ xWs := xWs_of (lw_T (i := 786) rfl) rfl
set_option maxRecDepth 100000 in
theorem xw787 : (Jvm.Cond.selects "LintDesk$Letters" ({ cls := "LintDesk$Letters", name := "add", desc := "(C)V" } : Jvm.MethodName) ({ cls := "LintDesk$Letters", name := "add", desc := "(C)V" } : Jvm.MethodName)) ∈ xWs := xWs_of (lw_T (i := 787) rfl) rfl
set_option maxRecDepth 100000 in
theorem xw788 : (Jvm.Cond.code ({ cls := "LintDesk$Letters", name := "add", desc := "(C)V" } : Jvm.MethodName) prog_4_method_4_code (2 : Nat) (Option.none : Option Jvm.ClassFile.FieldType)) ∈ xWs := xWs_of (lw_T (i := 788) rfl) rfl
set_option maxRecDepth 100000 in
theorem xw789 : (Jvm.Cond.methodLink "LintDesk" (267 : Nat) ({ cls := "LintDesk$Letters", name := "addText", desc := "(Ljava/lang/String;)V" } : Jvm.MethodName)) ∈ xWs := xWs_of (lw_T (i := 789) rfl) rfl
set_option maxRecDepth 100000 in
theorem xw790 : (Jvm.Cond.instanceMethod ({ cls := "LintDesk$Letters", name := "addText", desc := "(Ljava/lang/String;)V" } : Jvm.MethodName)) ∈ xWs := xWs_of (lw_T (i := 790) rfl) rfl
set_option maxRecDepth 100000 in
theorem xw791 : (Jvm.Cond.selects "LintDesk$Letters" ({ cls := "LintDesk$Letters", name := "addText", desc := "(Ljava/lang/String;)V" } : Jvm.MethodName) ({ cls := "LintDesk$Letters", name := "addText", desc := "(Ljava/lang/String;)V" } : Jvm.MethodName)) ∈ xWs := xWs_of (lw_T (i := 791) rfl) rfl
set_option maxRecDepth 100000 in
theorem xw792 : (Jvm.Cond.code ({ cls := "LintDesk$Letters", name := "addText", desc := "(Ljava/lang/String;)V" } : Jvm.MethodName) prog_4_method_6_code (3 : Nat) (Option.none : Option Jvm.ClassFile.FieldType)) ∈ xWs := xWs_of (lw_T (i := 792) rfl) rfl
set_option maxRecDepth 100000 in
theorem xw793 : (Jvm.Cond.methodLink "LintDesk" (87 : Nat) ({ cls := "LintDesk", name := "takeSpare", desc := "()V" } : Jvm.MethodName)) ∈ xWs := xWs_of (lw_T (i := 793) rfl) rfl
set_option maxRecDepth 100000 in
theorem xw795 : (Jvm.Cond.instanceMethod ({ cls := "LintDesk", name := "takeSpare", desc := "()V" } : Jvm.MethodName)) ∈ xWs := xWs_of (lw_T (i := 795) rfl) rfl
set_option maxRecDepth 100000 in
theorem xw796 : (Jvm.Cond.code ({ cls := "LintDesk", name := "takeSpare", desc := "()V" } : Jvm.MethodName) prog_1_method_14_code (2 : Nat) (Option.none : Option Jvm.ClassFile.FieldType)) ∈ xWs := xWs_of (lw_T (i := 796) rfl) rfl
set_option maxRecDepth 100000 in
theorem xw797 : (Jvm.Cond.arrayClass Jvm.ClassFile.FieldType.byte) ∈ xWs := xWs_of (lw_T (i := 797) rfl) rfl
set_option maxRecDepth 100000 in
theorem xw798 : (Jvm.Cond.methodLink "LintDeskLaw" (53 : Nat) ({ cls := "LintDeskLaw", name := "write", desc := "(LLintDesk;J[J)I" } : Jvm.MethodName)) ∈ xWs := xWs_of (lw_T (i := 798) rfl) rfl
set_option maxRecDepth 100000 in
theorem xw799 : (Jvm.Cond.static ({ cls := "LintDeskLaw", name := "write", desc := "(LLintDesk;J[J)I" } : Jvm.MethodName)) ∈ xWs := xWs_of (lw_T (i := 799) rfl) rfl
set_option maxRecDepth 100000 in
theorem xw801 : (Jvm.Cond.classLink "LintDeskLaw" (13 : Nat) "java/lang/IllegalArgumentException") ∈ xWs := xWs_of (lw_T (i := 801) rfl) rfl
set_option maxRecDepth 100000 in
theorem xw802 : (Jvm.Cond.classLink "LintDeskLaw" (15 : Nat) "java/lang/IndexOutOfBoundsException") ∈ xWs := xWs_of (lw_T (i := 802) rfl) rfl
set_option maxRecDepth 100000 in
theorem xw803 : (Jvm.Cond.methodLink "LintDeskLaw" (7 : Nat) ({ cls := "LintDesk", name := "write", desc := "(J)I" } : Jvm.MethodName)) ∈ xWs := xWs_of (lw_T (i := 803) rfl) rfl
set_option maxRecDepth 100000 in
theorem xw804 : (Jvm.Cond.instanceMethod ({ cls := "LintDesk", name := "write", desc := "(J)I" } : Jvm.MethodName)) ∈ xWs := xWs_of (lw_T (i := 804) rfl) rfl
set_option maxRecDepth 100000 in
theorem xw805 : (Jvm.Cond.selects "LintDesk" ({ cls := "LintDesk", name := "write", desc := "(J)I" } : Jvm.MethodName) ({ cls := "LintDesk", name := "write", desc := "(J)I" } : Jvm.MethodName)) ∈ xWs := xWs_of (lw_T (i := 805) rfl) rfl
set_option maxRecDepth 100000 in
theorem xw806 : (Jvm.Cond.code ({ cls := "LintDesk", name := "write", desc := "(J)I" } : Jvm.MethodName) prog_1_method_2_code (5 : Nat) (Option.some Jvm.ClassFile.FieldType.int)) ∈ xWs := xWs_of (lw_T (i := 806) rfl) rfl
set_option maxRecDepth 100000 in
theorem xw807 : (Jvm.Cond.methodLink "LintDesk" (44 : Nat) ({ cls := "LintDesk", name := "octetsIn", desc := "(J)I" } : Jvm.MethodName)) ∈ xWs := xWs_of (lw_T (i := 807) rfl) rfl
set_option maxRecDepth 100000 in
theorem xw808 : (Jvm.Cond.static ({ cls := "LintDesk", name := "octetsIn", desc := "(J)I" } : Jvm.MethodName)) ∈ xWs := xWs_of (lw_T (i := 808) rfl) rfl
set_option maxRecDepth 100000 in
theorem xw809 : (Jvm.Cond.code ({ cls := "LintDesk", name := "octetsIn", desc := "(J)I" } : Jvm.MethodName) prog_1_method_21_code (3 : Nat) (Option.some Jvm.ClassFile.FieldType.int)) ∈ xWs := xWs_of (lw_T (i := 809) rfl) rfl
set_option maxRecDepth 100000 in
theorem xw810 : (Jvm.Cond.methodLink "LintDesk" (67 : Nat) ({ cls := "LintDesk", name := "octet", desc := "(JI)I" } : Jvm.MethodName)) ∈ xWs := xWs_of (lw_T (i := 810) rfl) rfl
set_option maxRecDepth 100000 in
theorem xw811 : (Jvm.Cond.static ({ cls := "LintDesk", name := "octet", desc := "(JI)I" } : Jvm.MethodName)) ∈ xWs := xWs_of (lw_T (i := 811) rfl) rfl
set_option maxRecDepth 100000 in
theorem xw812 : (Jvm.Cond.code ({ cls := "LintDesk", name := "octet", desc := "(JI)I" } : Jvm.MethodName) prog_1_method_20_code (3 : Nat) (Option.some Jvm.ClassFile.FieldType.int)) ∈ xWs := xWs_of (lw_T (i := 812) rfl) rfl
set_option maxRecDepth 100000 in
theorem xw813 : (Jvm.Cond.methodLink "LintDesk" (48 : Nat) ({ cls := "LintDesk", name := "areLetters", desc := "(JI)Z" } : Jvm.MethodName)) ∈ xWs := xWs_of (lw_T (i := 813) rfl) rfl
set_option maxRecDepth 100000 in
theorem xw814 : (Jvm.Cond.static ({ cls := "LintDesk", name := "areLetters", desc := "(JI)Z" } : Jvm.MethodName)) ∈ xWs := xWs_of (lw_T (i := 814) rfl) rfl
set_option maxRecDepth 100000 in
theorem xw815 : (Jvm.Cond.code ({ cls := "LintDesk", name := "areLetters", desc := "(JI)Z" } : Jvm.MethodName) prog_1_method_23_code (5 : Nat) (Option.some Jvm.ClassFile.FieldType.boolean)) ∈ xWs := xWs_of (lw_T (i := 815) rfl) rfl
set_option maxRecDepth 100000 in
theorem xw816 : (Jvm.Cond.classLink "LintDesk" (52 : Nat) "java/lang/IllegalArgumentException") ∈ xWs := xWs_of (lw_T (i := 816) rfl) rfl
set_option maxRecDepth 100000 in
theorem xw817 : (Jvm.Cond.instantiable "java/lang/IllegalArgumentException" (6 : Nat)) ∈ xWs := xWs_of (lw_T (i := 817) rfl) rfl
set_option maxRecDepth 100000 in
theorem xw825 : (Jvm.Cond.selects "java/lang/IllegalArgumentException" ({ cls := "java/lang/Throwable", name := "fillInStackTrace", desc := "(I)Ljava/lang/Throwable;" } : Jvm.MethodName) ({ cls := "java/lang/Throwable", name := "fillInStackTrace", desc := "(I)Ljava/lang/Throwable;" } : Jvm.MethodName)) ∈ xWs := xWs_of (lw_T (i := 825) rfl) rfl
set_option maxRecDepth 100000 in
theorem xw826 : (Jvm.Cond.selects "java/lang/IllegalArgumentException" ({ cls := "java/lang/Throwable", name := "fillInStackTrace", desc := "()Ljava/lang/Throwable;" } : Jvm.MethodName) ({ cls := "java/lang/Throwable", name := "fillInStackTrace", desc := "()Ljava/lang/Throwable;" } : Jvm.MethodName)) ∈ xWs := xWs_of (lw_T (i := 826) rfl) rfl
set_option maxRecDepth 100000 in
theorem xw827 : (Jvm.Cond.lays "java/lang/IllegalArgumentException" "java/lang/Throwable" "cause" "Ljava/lang/Throwable;") ∈ xWs := xWs_of (lw_T (i := 827) rfl) rfl
set_option maxRecDepth 100000 in
theorem xw828 : (Jvm.Cond.lays "java/lang/Throwable" "java/lang/Throwable" "cause" "Ljava/lang/Throwable;") ∈ xWs := xWs_of (lw_T (i := 828) rfl) rfl
set_option maxRecDepth 100000 in
theorem xw829 : (Jvm.Cond.lays "java/lang/IllegalArgumentException" "java/lang/Throwable" "stackTrace" "[Ljava/lang/StackTraceElement;") ∈ xWs := xWs_of (lw_T (i := 829) rfl) rfl
set_option maxRecDepth 100000 in
theorem xw830 : (Jvm.Cond.lays "java/lang/Throwable" "java/lang/Throwable" "stackTrace" "[Ljava/lang/StackTraceElement;") ∈ xWs := xWs_of (lw_T (i := 830) rfl) rfl
set_option maxRecDepth 100000 in
theorem xw831 : (Jvm.Cond.lays "java/lang/IllegalArgumentException" "java/lang/Throwable" "suppressedExceptions" "Ljava/util/List;") ∈ xWs := xWs_of (lw_T (i := 831) rfl) rfl
set_option maxRecDepth 100000 in
theorem xw832 : (Jvm.Cond.lays "java/lang/Throwable" "java/lang/Throwable" "suppressedExceptions" "Ljava/util/List;") ∈ xWs := xWs_of (lw_T (i := 832) rfl) rfl
set_option maxRecDepth 100000 in
theorem xw833 : (Jvm.Cond.lays "java/lang/IllegalArgumentException" "java/lang/Throwable" "detailMessage" "Ljava/lang/String;") ∈ xWs := xWs_of (lw_T (i := 833) rfl) rfl
set_option maxRecDepth 100000 in
theorem xw834 : (Jvm.Cond.lays "java/lang/Throwable" "java/lang/Throwable" "detailMessage" "Ljava/lang/String;") ∈ xWs := xWs_of (lw_T (i := 834) rfl) rfl
set_option maxRecDepth 100000 in
theorem xw835 : (Jvm.Cond.lays "java/lang/IllegalArgumentException" "java/lang/Throwable" "backtrace" "Ljava/lang/Object;") ∈ xWs := xWs_of (lw_T (i := 835) rfl) rfl
set_option maxRecDepth 100000 in
theorem xw836 : (Jvm.Cond.lays "java/lang/Throwable" "java/lang/Throwable" "backtrace" "Ljava/lang/Object;") ∈ xWs := xWs_of (lw_T (i := 836) rfl) rfl
set_option maxRecDepth 100000 in
theorem xw837 : (Jvm.Cond.fieldLink "java/lang/Throwable" (198 : Nat) "java/lang/Throwable" "backtrace" "Ljava/lang/Object;") ∈ xWs := xWs_of (lw_T (i := 837) rfl) rfl
set_option maxRecDepth 100000 in
theorem xw839 : (Jvm.Cond.instanceMethod ({ cls := "java/lang/Throwable", name := "<init>", desc := "()V" } : Jvm.MethodName)) ∈ xWs := xWs_of (lw_T (i := 839) rfl) rfl
set_option maxRecDepth 100000 in
theorem xw840 : (Jvm.Cond.code ({ cls := "java/lang/Throwable", name := "<init>", desc := "()V" } : Jvm.MethodName) prog_25_method_1_code (1 : Nat) (Option.none : Option Jvm.ClassFile.FieldType)) ∈ xWs := xWs_of (lw_T (i := 840) rfl) rfl
set_option maxRecDepth 100000 in
theorem xw841 : (Jvm.Cond.methodLink "java/lang/Throwable" (1 : Nat) ({ cls := "java/lang/Object", name := "<init>", desc := "()V" } : Jvm.MethodName)) ∈ xWs := xWs_of (lw_T (i := 841) rfl) rfl
set_option maxRecDepth 100000 in
theorem xw842 : (Jvm.Cond.fieldLink "java/lang/Throwable" (13 : Nat) "java/lang/Throwable" "UNASSIGNED_STACK" "[Ljava/lang/StackTraceElement;") ∈ xWs := xWs_of (lw_T (i := 842) rfl) rfl
set_option maxRecDepth 100000 in
theorem xw844 : (Jvm.Cond.fieldLink "java/lang/Throwable" (20 : Nat) "java/lang/Throwable" "SUPPRESSED_SENTINEL" "Ljava/util/List;") ∈ xWs := xWs_of (lw_T (i := 844) rfl) rfl
set_option maxRecDepth 100000 in
theorem xw846 : (Jvm.Cond.methodLink "java/lang/Throwable" (27 : Nat) ({ cls := "java/lang/Throwable", name := "fillInStackTrace", desc := "()Ljava/lang/Throwable;" } : Jvm.MethodName)) ∈ xWs := xWs_of (lw_T (i := 846) rfl) rfl
set_option maxRecDepth 100000 in
theorem xw847 : (Jvm.Cond.instanceMethod ({ cls := "java/lang/Throwable", name := "fillInStackTrace", desc := "()Ljava/lang/Throwable;" } : Jvm.MethodName)) ∈ xWs := xWs_of (lw_T (i := 847) rfl) rfl
set_option maxRecDepth 100000 in
theorem xw848 : (Jvm.Cond.sameMethod "java/lang/Throwable" "java/lang/Throwable" "fillInStackTrace" "()Ljava/lang/Throwable;") ∈ xWs := xWs_of (lw_T (i := 848) rfl) rfl
set_option maxRecDepth 100000 in
theorem xw849 : (Jvm.Cond.selects "java/lang/IllegalStateException" ({ cls := "java/lang/Throwable", name := "fillInStackTrace", desc := "()Ljava/lang/Throwable;" } : Jvm.MethodName) ({ cls := "java/lang/Throwable", name := "fillInStackTrace", desc := "()Ljava/lang/Throwable;" } : Jvm.MethodName)) ∈ xWs := xWs_of (lw_T (i := 849) rfl) rfl
set_option maxRecDepth 100000 in
theorem xw850 : (Jvm.Cond.selects "java/lang/IndexOutOfBoundsException" ({ cls := "java/lang/Throwable", name := "fillInStackTrace", desc := "()Ljava/lang/Throwable;" } : Jvm.MethodName) ({ cls := "java/lang/Throwable", name := "fillInStackTrace", desc := "()Ljava/lang/Throwable;" } : Jvm.MethodName)) ∈ xWs := xWs_of (lw_T (i := 850) rfl) rfl
set_option maxRecDepth 100000 in
theorem xw852 : (Jvm.Cond.methodLink "java/lang/Throwable" (202 : Nat) ({ cls := "java/lang/Throwable", name := "fillInStackTrace", desc := "(I)Ljava/lang/Throwable;" } : Jvm.MethodName)) ∈ xWs := xWs_of (lw_T (i := 852) rfl) rfl
set_option maxRecDepth 100000 in
theorem xw854 : (Jvm.Cond.instanceMethod ({ cls := "java/lang/Throwable", name := "fillInStackTrace", desc := "(I)Ljava/lang/Throwable;" } : Jvm.MethodName)) ∈ xWs := xWs_of (lw_T (i := 854) rfl) rfl
set_option maxRecDepth 100000 in
theorem xw855 : (Jvm.Cond.instantiable "java/lang/Throwable" (6 : Nat)) ∈ xWs := xWs_of (lw_T (i := 855) rfl) rfl
set_option maxRecDepth 100000 in
theorem xw858 : (Jvm.Cond.methodLink "LintDesk" (56 : Nat) ({ cls := "java/lang/IllegalArgumentException", name := "<init>", desc := "(Ljava/lang/String;)V" } : Jvm.MethodName)) ∈ xWs := xWs_of (lw_T (i := 858) rfl) rfl
set_option maxRecDepth 100000 in
theorem xw859 : (Jvm.Cond.instanceMethod ({ cls := "java/lang/IllegalArgumentException", name := "<init>", desc := "(Ljava/lang/String;)V" } : Jvm.MethodName)) ∈ xWs := xWs_of (lw_T (i := 859) rfl) rfl
set_option maxRecDepth 100000 in
theorem xw860 : (Jvm.Cond.code ({ cls := "java/lang/IllegalArgumentException", name := "<init>", desc := "(Ljava/lang/String;)V" } : Jvm.MethodName) prog_17_method_2_code (2 : Nat) (Option.none : Option Jvm.ClassFile.FieldType)) ∈ xWs := xWs_of (lw_T (i := 860) rfl) rfl
set_option maxRecDepth 100000 in
theorem xw861 : (Jvm.Cond.methodLink "java/lang/IllegalArgumentException" (7 : Nat) ({ cls := "java/lang/RuntimeException", name := "<init>", desc := "(Ljava/lang/String;)V" } : Jvm.MethodName)) ∈ xWs := xWs_of (lw_T (i := 861) rfl) rfl
set_option maxRecDepth 100000 in
theorem xw862 : (Jvm.Cond.instanceMethod ({ cls := "java/lang/RuntimeException", name := "<init>", desc := "(Ljava/lang/String;)V" } : Jvm.MethodName)) ∈ xWs := xWs_of (lw_T (i := 862) rfl) rfl
set_option maxRecDepth 100000 in
theorem xw863 : (Jvm.Cond.code ({ cls := "java/lang/RuntimeException", name := "<init>", desc := "(Ljava/lang/String;)V" } : Jvm.MethodName) prog_21_method_2_code (2 : Nat) (Option.none : Option Jvm.ClassFile.FieldType)) ∈ xWs := xWs_of (lw_T (i := 863) rfl) rfl
set_option maxRecDepth 100000 in
theorem xw864 : (Jvm.Cond.methodLink "java/lang/RuntimeException" (7 : Nat) ({ cls := "java/lang/Exception", name := "<init>", desc := "(Ljava/lang/String;)V" } : Jvm.MethodName)) ∈ xWs := xWs_of (lw_T (i := 864) rfl) rfl
set_option maxRecDepth 100000 in
theorem xw865 : (Jvm.Cond.instanceMethod ({ cls := "java/lang/Exception", name := "<init>", desc := "(Ljava/lang/String;)V" } : Jvm.MethodName)) ∈ xWs := xWs_of (lw_T (i := 865) rfl) rfl
set_option maxRecDepth 100000 in
theorem xw866 : (Jvm.Cond.code ({ cls := "java/lang/Exception", name := "<init>", desc := "(Ljava/lang/String;)V" } : Jvm.MethodName) prog_16_method_2_code (2 : Nat) (Option.none : Option Jvm.ClassFile.FieldType)) ∈ xWs := xWs_of (lw_T (i := 866) rfl) rfl
set_option maxRecDepth 100000 in
theorem xw867 : (Jvm.Cond.methodLink "java/lang/Exception" (7 : Nat) ({ cls := "java/lang/Throwable", name := "<init>", desc := "(Ljava/lang/String;)V" } : Jvm.MethodName)) ∈ xWs := xWs_of (lw_T (i := 867) rfl) rfl
set_option maxRecDepth 100000 in
theorem xw868 : (Jvm.Cond.instanceMethod ({ cls := "java/lang/Throwable", name := "<init>", desc := "(Ljava/lang/String;)V" } : Jvm.MethodName)) ∈ xWs := xWs_of (lw_T (i := 868) rfl) rfl
set_option maxRecDepth 100000 in
theorem xw869 : (Jvm.Cond.code ({ cls := "java/lang/Throwable", name := "<init>", desc := "(Ljava/lang/String;)V" } : Jvm.MethodName) prog_25_method_2_code (2 : Nat) (Option.none : Option Jvm.ClassFile.FieldType)) ∈ xWs := xWs_of (lw_T (i := 869) rfl) rfl
set_option maxRecDepth 100000 in
theorem xw870 : (Jvm.Cond.fieldLink "java/lang/Throwable" (198 : Nat) "java/lang/Throwable" "backtrace" "Ljava/lang/Object;") ∈ xWs := xWs_of (lw_T (i := 870) rfl) rfl
set_option maxRecDepth 100000 in
theorem xw871 : (Jvm.Cond.fieldLink "java/lang/Throwable" (31 : Nat) "java/lang/Throwable" "detailMessage" "Ljava/lang/String;") ∈ xWs := xWs_of (lw_T (i := 871) rfl) rfl
set_option maxRecDepth 100000 in
theorem xw872 : (Jvm.Cond.fieldLink "java/lang/Throwable" (7 : Nat) "java/lang/Throwable" "cause" "Ljava/lang/Throwable;") ∈ xWs := xWs_of (lw_T (i := 872) rfl) rfl
set_option maxRecDepth 100000 in
theorem xw873 : (Jvm.Cond.fieldLink "java/lang/Throwable" (17 : Nat) "java/lang/Throwable" "stackTrace" "[Ljava/lang/StackTraceElement;") ∈ xWs := xWs_of (lw_T (i := 873) rfl) rfl
set_option maxRecDepth 100000 in
theorem xw874 : (Jvm.Cond.fieldLink "java/lang/Throwable" (24 : Nat) "java/lang/Throwable" "suppressedExceptions" "Ljava/util/List;") ∈ xWs := xWs_of (lw_T (i := 874) rfl) rfl
set_option maxRecDepth 100000 in
theorem xw879 : (Jvm.Cond.lays "java/lang/IllegalArgumentException" "java/lang/Throwable" "depth" "I") ∈ xWs := xWs_of (lw_T (i := 879) rfl) rfl
set_option maxRecDepth 100000 in
theorem xw883 : (Jvm.Cond.classLink "LintDesk" (62 : Nat) "java/lang/IndexOutOfBoundsException") ∈ xWs := xWs_of (lw_T (i := 883) rfl) rfl
set_option maxRecDepth 100000 in
theorem xw884 : (Jvm.Cond.instantiable "java/lang/IndexOutOfBoundsException" (6 : Nat)) ∈ xWs := xWs_of (lw_T (i := 884) rfl) rfl
set_option maxRecDepth 100000 in
theorem xw886 : (Jvm.Cond.selects "java/lang/IndexOutOfBoundsException" ({ cls := "java/lang/Throwable", name := "fillInStackTrace", desc := "(I)Ljava/lang/Throwable;" } : Jvm.MethodName) ({ cls := "java/lang/Throwable", name := "fillInStackTrace", desc := "(I)Ljava/lang/Throwable;" } : Jvm.MethodName)) ∈ xWs := xWs_of (lw_T (i := 886) rfl) rfl
set_option maxRecDepth 100000 in
theorem xw887 : (Jvm.Cond.lays "java/lang/IndexOutOfBoundsException" "java/lang/Throwable" "cause" "Ljava/lang/Throwable;") ∈ xWs := xWs_of (lw_T (i := 887) rfl) rfl
set_option maxRecDepth 100000 in
theorem xw888 : (Jvm.Cond.lays "java/lang/IndexOutOfBoundsException" "java/lang/Throwable" "stackTrace" "[Ljava/lang/StackTraceElement;") ∈ xWs := xWs_of (lw_T (i := 888) rfl) rfl
set_option maxRecDepth 100000 in
theorem xw889 : (Jvm.Cond.lays "java/lang/IndexOutOfBoundsException" "java/lang/Throwable" "suppressedExceptions" "Ljava/util/List;") ∈ xWs := xWs_of (lw_T (i := 889) rfl) rfl
set_option maxRecDepth 100000 in
theorem xw890 : (Jvm.Cond.lays "java/lang/IndexOutOfBoundsException" "java/lang/Throwable" "detailMessage" "Ljava/lang/String;") ∈ xWs := xWs_of (lw_T (i := 890) rfl) rfl
set_option maxRecDepth 100000 in
theorem xw891 : (Jvm.Cond.lays "java/lang/IndexOutOfBoundsException" "java/lang/Throwable" "backtrace" "Ljava/lang/Object;") ∈ xWs := xWs_of (lw_T (i := 891) rfl) rfl
set_option maxRecDepth 100000 in
theorem xw893 : (Jvm.Cond.methodLink "LintDesk" (66 : Nat) ({ cls := "java/lang/IndexOutOfBoundsException", name := "<init>", desc := "(Ljava/lang/String;)V" } : Jvm.MethodName)) ∈ xWs := xWs_of (lw_T (i := 893) rfl) rfl
set_option maxRecDepth 100000 in
theorem xw894 : (Jvm.Cond.instanceMethod ({ cls := "java/lang/IndexOutOfBoundsException", name := "<init>", desc := "(Ljava/lang/String;)V" } : Jvm.MethodName)) ∈ xWs := xWs_of (lw_T (i := 894) rfl) rfl
set_option maxRecDepth 100000 in
theorem xw895 : (Jvm.Cond.code ({ cls := "java/lang/IndexOutOfBoundsException", name := "<init>", desc := "(Ljava/lang/String;)V" } : Jvm.MethodName) prog_19_method_2_code (2 : Nat) (Option.none : Option Jvm.ClassFile.FieldType)) ∈ xWs := xWs_of (lw_T (i := 895) rfl) rfl
set_option maxRecDepth 100000 in
theorem xw896 : (Jvm.Cond.methodLink "java/lang/IndexOutOfBoundsException" (7 : Nat) ({ cls := "java/lang/RuntimeException", name := "<init>", desc := "(Ljava/lang/String;)V" } : Jvm.MethodName)) ∈ xWs := xWs_of (lw_T (i := 896) rfl) rfl
set_option maxRecDepth 100000 in
theorem xw897 : (Jvm.Cond.lays "java/lang/IndexOutOfBoundsException" "java/lang/Throwable" "depth" "I") ∈ xWs := xWs_of (lw_T (i := 897) rfl) rfl
set_option maxRecDepth 100000 in
theorem xw899 : (Jvm.Cond.methodLink "LintDesk" (71 : Nat) ({ cls := "LintDesk$Letters", name := "add", desc := "(C)V" } : Jvm.MethodName)) ∈ xWs := xWs_of (lw_T (i := 899) rfl) rfl
set_option maxRecDepth 100000 in
theorem xw900 : (Jvm.Cond.methodLink "LintDeskLaw" (62 : Nat) ({ cls := "LintDeskLaw", name := "read", desc := "(LLintDesk;[J)I" } : Jvm.MethodName)) ∈ xWs := xWs_of (lw_T (i := 900) rfl) rfl
set_option maxRecDepth 100000 in
theorem xw901 : (Jvm.Cond.static ({ cls := "LintDeskLaw", name := "read", desc := "(LLintDesk;[J)I" } : Jvm.MethodName)) ∈ xWs := xWs_of (lw_T (i := 901) rfl) rfl
set_option maxRecDepth 100000 in
theorem xw903 : (Jvm.Cond.methodLink "LintDeskLaw" (17 : Nat) ({ cls := "LintDesk", name := "read", desc := "()I" } : Jvm.MethodName)) ∈ xWs := xWs_of (lw_T (i := 903) rfl) rfl
set_option maxRecDepth 100000 in
theorem xw904 : (Jvm.Cond.instanceMethod ({ cls := "LintDesk", name := "read", desc := "()I" } : Jvm.MethodName)) ∈ xWs := xWs_of (lw_T (i := 904) rfl) rfl
set_option maxRecDepth 100000 in
theorem xw905 : (Jvm.Cond.selects "LintDesk" ({ cls := "LintDesk", name := "read", desc := "()I" } : Jvm.MethodName) ({ cls := "LintDesk", name := "read", desc := "()I" } : Jvm.MethodName)) ∈ xWs := xWs_of (lw_T (i := 905) rfl) rfl
set_option maxRecDepth 100000 in
theorem xw906 : (Jvm.Cond.code ({ cls := "LintDesk", name := "read", desc := "()I" } : Jvm.MethodName) prog_1_method_3_code (1 : Nat) (Option.some Jvm.ClassFile.FieldType.int)) ∈ xWs := xWs_of (lw_T (i := 906) rfl) rfl
set_option maxRecDepth 100000 in
theorem xw908 : (Jvm.Cond.methodLink "LintDesk" (90 : Nat) ({ cls := "LintDesk$Settings", name := "findingsIn", desc := "(LLintDesk$Reading;)I" } : Jvm.MethodName)) ∈ xWs := xWs_of (lw_T (i := 908) rfl) rfl
set_option maxRecDepth 100000 in
theorem xw909 : (Jvm.Cond.instanceMethod ({ cls := "LintDesk$Settings", name := "findingsIn", desc := "(LLintDesk$Reading;)I" } : Jvm.MethodName)) ∈ xWs := xWs_of (lw_T (i := 909) rfl) rfl
set_option maxRecDepth 100000 in
theorem xw910 : (Jvm.Cond.selects "LintDesk$Settings" ({ cls := "LintDesk$Settings", name := "findingsIn", desc := "(LLintDesk$Reading;)I" } : Jvm.MethodName) ({ cls := "LintDesk$Settings", name := "findingsIn", desc := "(LLintDesk$Reading;)I" } : Jvm.MethodName)) ∈ xWs := xWs_of (lw_T (i := 910) rfl) rfl
set_option maxRecDepth 100000 in
theorem xw911 : (Jvm.Cond.code ({ cls := "LintDesk$Settings", name := "findingsIn", desc := "(LLintDesk$Reading;)I" } : Jvm.MethodName) prog_9_method_8_code (4 : Nat) (Option.some Jvm.ClassFile.FieldType.int)) ∈ xWs := xWs_of (lw_T (i := 911) rfl) rfl
set_option maxRecDepth 100000 in
theorem xw912 : (Jvm.Cond.methodLink "LintDesk$Settings" (60 : Nat) ({ cls := "java/lang/Integer", name := "bitCount", desc := "(I)I" } : Jvm.MethodName)) ∈ xWs := xWs_of (lw_T (i := 912) rfl) rfl
set_option maxRecDepth 100000 in
theorem xw913 : (Jvm.Cond.static ({ cls := "java/lang/Integer", name := "bitCount", desc := "(I)I" } : Jvm.MethodName)) ∈ xWs := xWs_of (lw_T (i := 913) rfl) rfl
set_option maxRecDepth 100000 in
theorem xw914 : (Jvm.Cond.code ({ cls := "java/lang/Integer", name := "bitCount", desc := "(I)I" } : Jvm.MethodName) prog_20_method_49_code (1 : Nat) (Option.some Jvm.ClassFile.FieldType.int)) ∈ xWs := xWs_of (lw_T (i := 914) rfl) rfl
set_option maxRecDepth 100000 in
theorem xw915 : (Jvm.Cond.constant "java/lang/Integer" (265 : Nat) (1431655765 : Int32)) ∈ xWs := xWs_of (lw_T (i := 915) rfl) rfl
set_option maxRecDepth 100000 in
theorem xw916 : (Jvm.Cond.constant "java/lang/Integer" (266 : Nat) (858993459 : Int32)) ∈ xWs := xWs_of (lw_T (i := 916) rfl) rfl
set_option maxRecDepth 100000 in
theorem xw917 : (Jvm.Cond.constant "java/lang/Integer" (267 : Nat) (252645135 : Int32)) ∈ xWs := xWs_of (lw_T (i := 917) rfl) rfl
set_option maxRecDepth 100000 in
theorem xw918 : (Jvm.Cond.methodLink "LintDeskLaw" (70 : Nat) ({ cls := "LintDeskLaw", name := "rule", desc := "(LLintDesk;IZ[J)I" } : Jvm.MethodName)) ∈ xWs := xWs_of (lw_T (i := 918) rfl) rfl
set_option maxRecDepth 100000 in
theorem xw919 : (Jvm.Cond.static ({ cls := "LintDeskLaw", name := "rule", desc := "(LLintDesk;IZ[J)I" } : Jvm.MethodName)) ∈ xWs := xWs_of (lw_T (i := 919) rfl) rfl
set_option maxRecDepth 100000 in
theorem xw921 : (Jvm.Cond.methodLink "LintDeskLaw" (21 : Nat) ({ cls := "LintDesk", name := "rule", desc := "(IZ)Z" } : Jvm.MethodName)) ∈ xWs := xWs_of (lw_T (i := 921) rfl) rfl
set_option maxRecDepth 100000 in
theorem xw922 : (Jvm.Cond.instanceMethod ({ cls := "LintDesk", name := "rule", desc := "(IZ)Z" } : Jvm.MethodName)) ∈ xWs := xWs_of (lw_T (i := 922) rfl) rfl
set_option maxRecDepth 100000 in
theorem xw923 : (Jvm.Cond.selects "LintDesk" ({ cls := "LintDesk", name := "rule", desc := "(IZ)Z" } : Jvm.MethodName) ({ cls := "LintDesk", name := "rule", desc := "(IZ)Z" } : Jvm.MethodName)) ∈ xWs := xWs_of (lw_T (i := 923) rfl) rfl
set_option maxRecDepth 100000 in
theorem xw924 : (Jvm.Cond.code ({ cls := "LintDesk", name := "rule", desc := "(IZ)Z" } : Jvm.MethodName) prog_1_method_5_code (4 : Nat) (Option.some Jvm.ClassFile.FieldType.boolean)) ∈ xWs := xWs_of (lw_T (i := 924) rfl) rfl
set_option maxRecDepth 100000 in
theorem xw926 : (Jvm.Cond.methodLink "LintDesk" (96 : Nat) ({ cls := "LintDesk$Settings", name := "isOn", desc := "(I)Z" } : Jvm.MethodName)) ∈ xWs := xWs_of (lw_T (i := 926) rfl) rfl
set_option maxRecDepth 100000 in
theorem xw927 : (Jvm.Cond.instanceMethod ({ cls := "LintDesk$Settings", name := "isOn", desc := "(I)Z" } : Jvm.MethodName)) ∈ xWs := xWs_of (lw_T (i := 927) rfl) rfl
set_option maxRecDepth 100000 in
theorem xw928 : (Jvm.Cond.selects "LintDesk$Settings" ({ cls := "LintDesk$Settings", name := "isOn", desc := "(I)Z" } : Jvm.MethodName) ({ cls := "LintDesk$Settings", name := "isOn", desc := "(I)Z" } : Jvm.MethodName)) ∈ xWs := xWs_of (lw_T (i := 928) rfl) rfl
set_option maxRecDepth 100000 in
theorem xw929 : (Jvm.Cond.code ({ cls := "LintDesk$Settings", name := "isOn", desc := "(I)Z" } : Jvm.MethodName) prog_9_method_2_code (2 : Nat) (Option.some Jvm.ClassFile.FieldType.boolean)) ∈ xWs := xWs_of (lw_T (i := 929) rfl) rfl
set_option maxRecDepth 100000 in
theorem xw930 : (Jvm.Cond.methodLink "LintDesk" (100 : Nat) ({ cls := "LintDesk$Settings", name := "turn", desc := "(IZ)V" } : Jvm.MethodName)) ∈ xWs := xWs_of (lw_T (i := 930) rfl) rfl
set_option maxRecDepth 100000 in
theorem xw931 : (Jvm.Cond.instanceMethod ({ cls := "LintDesk$Settings", name := "turn", desc := "(IZ)V" } : Jvm.MethodName)) ∈ xWs := xWs_of (lw_T (i := 931) rfl) rfl
set_option maxRecDepth 100000 in
theorem xw932 : (Jvm.Cond.selects "LintDesk$Settings" ({ cls := "LintDesk$Settings", name := "turn", desc := "(IZ)V" } : Jvm.MethodName) ({ cls := "LintDesk$Settings", name := "turn", desc := "(IZ)V" } : Jvm.MethodName)) ∈ xWs := xWs_of (lw_T (i := 932) rfl) rfl
set_option maxRecDepth 100000 in
theorem xw933 : (Jvm.Cond.code ({ cls := "LintDesk$Settings", name := "turn", desc := "(IZ)V" } : Jvm.MethodName) prog_9_method_3_code (3 : Nat) (Option.none : Option Jvm.ClassFile.FieldType)) ∈ xWs := xWs_of (lw_T (i := 933) rfl) rfl
set_option maxRecDepth 100000 in
theorem xw934 : (Jvm.Cond.methodLink "LintDeskLaw" (74 : Nat) ({ cls := "LintDeskLaw", name := "give", desc := "(LLintDesk;J[J)I" } : Jvm.MethodName)) ∈ xWs := xWs_of (lw_T (i := 934) rfl) rfl
set_option maxRecDepth 100000 in
theorem xw935 : (Jvm.Cond.static ({ cls := "LintDeskLaw", name := "give", desc := "(LLintDesk;J[J)I" } : Jvm.MethodName)) ∈ xWs := xWs_of (lw_T (i := 935) rfl) rfl
set_option maxRecDepth 100000 in
theorem xw937 : (Jvm.Cond.classLink "LintDeskLaw" (28 : Nat) "java/lang/IllegalStateException") ∈ xWs := xWs_of (lw_T (i := 937) rfl) rfl
set_option maxRecDepth 100000 in
theorem xw938 : (Jvm.Cond.methodLink "LintDeskLaw" (25 : Nat) ({ cls := "LintDesk", name := "give", desc := "(J)I" } : Jvm.MethodName)) ∈ xWs := xWs_of (lw_T (i := 938) rfl) rfl
set_option maxRecDepth 100000 in
theorem xw939 : (Jvm.Cond.instanceMethod ({ cls := "LintDesk", name := "give", desc := "(J)I" } : Jvm.MethodName)) ∈ xWs := xWs_of (lw_T (i := 939) rfl) rfl
set_option maxRecDepth 100000 in
theorem xw940 : (Jvm.Cond.selects "LintDesk" ({ cls := "LintDesk", name := "give", desc := "(J)I" } : Jvm.MethodName) ({ cls := "LintDesk", name := "give", desc := "(J)I" } : Jvm.MethodName)) ∈ xWs := xWs_of (lw_T (i := 940) rfl) rfl
set_option maxRecDepth 100000 in
theorem xw941 : (Jvm.Cond.code ({ cls := "LintDesk", name := "give", desc := "(J)I" } : Jvm.MethodName) prog_1_method_6_code (6 : Nat) (Option.some Jvm.ClassFile.FieldType.int)) ∈ xWs := xWs_of (lw_T (i := 941) rfl) rfl
set_option maxRecDepth 100000 in
theorem xw942 : (Jvm.Cond.methodLink "LintDesk" (104 : Nat) ({ cls := "LintDesk", name := "firstOctets", desc := "(JI)J" } : Jvm.MethodName)) ∈ xWs := xWs_of (lw_T (i := 942) rfl) rfl
set_option maxRecDepth 100000 in
theorem xw943 : (Jvm.Cond.static ({ cls := "LintDesk", name := "firstOctets", desc := "(JI)J" } : Jvm.MethodName)) ∈ xWs := xWs_of (lw_T (i := 943) rfl) rfl
set_option maxRecDepth 100000 in
theorem xw944 : (Jvm.Cond.code ({ cls := "LintDesk", name := "firstOctets", desc := "(JI)J" } : Jvm.MethodName) prog_1_method_22_code (3 : Nat) (Option.some Jvm.ClassFile.FieldType.long)) ∈ xWs := xWs_of (lw_T (i := 944) rfl) rfl
set_option maxRecDepth 100000 in
theorem xw945 : (Jvm.Cond.methodLink "LintDesk" (108 : Nat) ({ cls := "LintDesk", name := "isWord", desc := "(JI)Z" } : Jvm.MethodName)) ∈ xWs := xWs_of (lw_T (i := 945) rfl) rfl
set_option maxRecDepth 100000 in
theorem xw946 : (Jvm.Cond.static ({ cls := "LintDesk", name := "isWord", desc := "(JI)Z" } : Jvm.MethodName)) ∈ xWs := xWs_of (lw_T (i := 946) rfl) rfl
set_option maxRecDepth 100000 in
theorem xw947 : (Jvm.Cond.code ({ cls := "LintDesk", name := "isWord", desc := "(JI)Z" } : Jvm.MethodName) prog_1_method_24_code (4 : Nat) (Option.some Jvm.ClassFile.FieldType.boolean)) ∈ xWs := xWs_of (lw_T (i := 947) rfl) rfl
set_option maxRecDepth 100000 in
theorem xw948 : (Jvm.Cond.methodLink "LintDesk" (279 : Nat) ({ cls := "LintDesk", name := "isSmall", desc := "(I)Z" } : Jvm.MethodName)) ∈ xWs := xWs_of (lw_T (i := 948) rfl) rfl
set_option maxRecDepth 100000 in
theorem xw949 : (Jvm.Cond.methodLink "LintDesk" (282 : Nat) ({ cls := "LintDesk", name := "isDigit", desc := "(I)Z" } : Jvm.MethodName)) ∈ xWs := xWs_of (lw_T (i := 949) rfl) rfl
set_option maxRecDepth 100000 in
theorem xw950 : (Jvm.Cond.methodLink "LintDesk" (111 : Nat) ({ cls := "LintDesk", name := "keywordOf", desc := "(J)LLintDesk$Token;" } : Jvm.MethodName)) ∈ xWs := xWs_of (lw_T (i := 950) rfl) rfl
set_option maxRecDepth 100000 in
theorem xw952 : (Jvm.Cond.methodLink "LintDesk" (123 : Nat) ({ cls := "LintDesk$Settings", name := "isGiven", desc := "(J)Z" } : Jvm.MethodName)) ∈ xWs := xWs_of (lw_T (i := 952) rfl) rfl
set_option maxRecDepth 100000 in
theorem xw953 : (Jvm.Cond.classLink "LintDesk" (127 : Nat) "java/lang/IllegalStateException") ∈ xWs := xWs_of (lw_T (i := 953) rfl) rfl
set_option maxRecDepth 100000 in
theorem xw954 : (Jvm.Cond.instantiable "java/lang/IllegalStateException" (6 : Nat)) ∈ xWs := xWs_of (lw_T (i := 954) rfl) rfl
set_option maxRecDepth 100000 in
theorem xw956 : (Jvm.Cond.selects "java/lang/IllegalStateException" ({ cls := "java/lang/Throwable", name := "fillInStackTrace", desc := "(I)Ljava/lang/Throwable;" } : Jvm.MethodName) ({ cls := "java/lang/Throwable", name := "fillInStackTrace", desc := "(I)Ljava/lang/Throwable;" } : Jvm.MethodName)) ∈ xWs := xWs_of (lw_T (i := 956) rfl) rfl
set_option maxRecDepth 100000 in
theorem xw957 : (Jvm.Cond.lays "java/lang/IllegalStateException" "java/lang/Throwable" "cause" "Ljava/lang/Throwable;") ∈ xWs := xWs_of (lw_T (i := 957) rfl) rfl
set_option maxRecDepth 100000 in
theorem xw958 : (Jvm.Cond.lays "java/lang/IllegalStateException" "java/lang/Throwable" "stackTrace" "[Ljava/lang/StackTraceElement;") ∈ xWs := xWs_of (lw_T (i := 958) rfl) rfl
set_option maxRecDepth 100000 in
theorem xw959 : (Jvm.Cond.lays "java/lang/IllegalStateException" "java/lang/Throwable" "suppressedExceptions" "Ljava/util/List;") ∈ xWs := xWs_of (lw_T (i := 959) rfl) rfl
set_option maxRecDepth 100000 in
theorem xw960 : (Jvm.Cond.lays "java/lang/IllegalStateException" "java/lang/Throwable" "detailMessage" "Ljava/lang/String;") ∈ xWs := xWs_of (lw_T (i := 960) rfl) rfl
set_option maxRecDepth 100000 in
theorem xw961 : (Jvm.Cond.lays "java/lang/IllegalStateException" "java/lang/Throwable" "backtrace" "Ljava/lang/Object;") ∈ xWs := xWs_of (lw_T (i := 961) rfl) rfl
set_option maxRecDepth 100000 in
theorem xw963 : (Jvm.Cond.methodLink "LintDesk" (131 : Nat) ({ cls := "java/lang/IllegalStateException", name := "<init>", desc := "(Ljava/lang/String;)V" } : Jvm.MethodName)) ∈ xWs := xWs_of (lw_T (i := 963) rfl) rfl
set_option maxRecDepth 100000 in
theorem xw964 : (Jvm.Cond.instanceMethod ({ cls := "java/lang/IllegalStateException", name := "<init>", desc := "(Ljava/lang/String;)V" } : Jvm.MethodName)) ∈ xWs := xWs_of (lw_T (i := 964) rfl) rfl
set_option maxRecDepth 100000 in
theorem xw965 : (Jvm.Cond.code ({ cls := "java/lang/IllegalStateException", name := "<init>", desc := "(Ljava/lang/String;)V" } : Jvm.MethodName) prog_18_method_2_code (2 : Nat) (Option.none : Option Jvm.ClassFile.FieldType)) ∈ xWs := xWs_of (lw_T (i := 965) rfl) rfl
set_option maxRecDepth 100000 in
theorem xw966 : (Jvm.Cond.methodLink "java/lang/IllegalStateException" (7 : Nat) ({ cls := "java/lang/RuntimeException", name := "<init>", desc := "(Ljava/lang/String;)V" } : Jvm.MethodName)) ∈ xWs := xWs_of (lw_T (i := 966) rfl) rfl
set_option maxRecDepth 100000 in
theorem xw967 : (Jvm.Cond.lays "java/lang/IllegalStateException" "java/lang/Throwable" "depth" "I") ∈ xWs := xWs_of (lw_T (i := 967) rfl) rfl
set_option maxRecDepth 100000 in
theorem xw970 : (Jvm.Cond.methodLink "LintDesk" (137 : Nat) ({ cls := "LintDesk$Settings", name := "addGiven", desc := "(J)V" } : Jvm.MethodName)) ∈ xWs := xWs_of (lw_T (i := 970) rfl) rfl
set_option maxRecDepth 100000 in
theorem xw971 : (Jvm.Cond.instanceMethod ({ cls := "LintDesk$Settings", name := "addGiven", desc := "(J)V" } : Jvm.MethodName)) ∈ xWs := xWs_of (lw_T (i := 971) rfl) rfl
set_option maxRecDepth 100000 in
theorem xw972 : (Jvm.Cond.selects "LintDesk$Settings" ({ cls := "LintDesk$Settings", name := "addGiven", desc := "(J)V" } : Jvm.MethodName) ({ cls := "LintDesk$Settings", name := "addGiven", desc := "(J)V" } : Jvm.MethodName)) ∈ xWs := xWs_of (lw_T (i := 972) rfl) rfl
set_option maxRecDepth 100000 in
theorem xw973 : (Jvm.Cond.code ({ cls := "LintDesk$Settings", name := "addGiven", desc := "(J)V" } : Jvm.MethodName) prog_9_method_5_code (3 : Nat) (Option.none : Option Jvm.ClassFile.FieldType)) ∈ xWs := xWs_of (lw_T (i := 973) rfl) rfl
set_option maxRecDepth 100000 in
theorem xw974 : (Jvm.Cond.methodLink "LintDeskLaw" (77 : Nat) ({ cls := "LintDeskLaw", name := "found", desc := "(LLintDesk;I[J)I" } : Jvm.MethodName)) ∈ xWs := xWs_of (lw_T (i := 974) rfl) rfl
set_option maxRecDepth 100000 in
theorem xw975 : (Jvm.Cond.static ({ cls := "LintDeskLaw", name := "found", desc := "(LLintDesk;I[J)I" } : Jvm.MethodName)) ∈ xWs := xWs_of (lw_T (i := 975) rfl) rfl
set_option maxRecDepth 100000 in
theorem xw977 : (Jvm.Cond.methodLink "LintDeskLaw" (30 : Nat) ({ cls := "LintDesk", name := "found", desc := "(I)I" } : Jvm.MethodName)) ∈ xWs := xWs_of (lw_T (i := 977) rfl) rfl
set_option maxRecDepth 100000 in
theorem xw978 : (Jvm.Cond.instanceMethod ({ cls := "LintDesk", name := "found", desc := "(I)I" } : Jvm.MethodName)) ∈ xWs := xWs_of (lw_T (i := 978) rfl) rfl
set_option maxRecDepth 100000 in
theorem xw979 : (Jvm.Cond.selects "LintDesk" ({ cls := "LintDesk", name := "found", desc := "(I)I" } : Jvm.MethodName) ({ cls := "LintDesk", name := "found", desc := "(I)I" } : Jvm.MethodName)) ∈ xWs := xWs_of (lw_T (i := 979) rfl) rfl
set_option maxRecDepth 100000 in
theorem xw980 : (Jvm.Cond.code ({ cls := "LintDesk", name := "found", desc := "(I)I" } : Jvm.MethodName) prog_1_method_7_code (3 : Nat) (Option.some Jvm.ClassFile.FieldType.int)) ∈ xWs := xWs_of (lw_T (i := 980) rfl) rfl
set_option maxRecDepth 100000 in
theorem xw981 : (Jvm.Cond.methodLink "LintDesk" (141 : Nat) ({ cls := "LintDesk$Settings", name := "findingOf", desc := "(LLintDesk$Reading;I)I" } : Jvm.MethodName)) ∈ xWs := xWs_of (lw_T (i := 981) rfl) rfl
set_option maxRecDepth 100000 in
theorem xw982 : (Jvm.Cond.instanceMethod ({ cls := "LintDesk$Settings", name := "findingOf", desc := "(LLintDesk$Reading;I)I" } : Jvm.MethodName)) ∈ xWs := xWs_of (lw_T (i := 982) rfl) rfl
set_option maxRecDepth 100000 in
theorem xw983 : (Jvm.Cond.selects "LintDesk$Settings" ({ cls := "LintDesk$Settings", name := "findingOf", desc := "(LLintDesk$Reading;I)I" } : Jvm.MethodName) ({ cls := "LintDesk$Settings", name := "findingOf", desc := "(LLintDesk$Reading;I)I" } : Jvm.MethodName)) ∈ xWs := xWs_of (lw_T (i := 983) rfl) rfl
set_option maxRecDepth 100000 in
theorem xw984 : (Jvm.Cond.code ({ cls := "LintDesk$Settings", name := "findingOf", desc := "(LLintDesk$Reading;I)I" } : Jvm.MethodName) prog_9_method_10_code (7 : Nat) (Option.some Jvm.ClassFile.FieldType.int)) ∈ xWs := xWs_of (lw_T (i := 984) rfl) rfl
set_option maxRecDepth 100000 in
theorem xw986 : (Jvm.Cond.methodLink "LintDeskLaw" (81 : Nat) ({ cls := "LintDeskLaw", name := "place", desc := "(LLintDesk;I[J)I" } : Jvm.MethodName)) ∈ xWs := xWs_of (lw_T (i := 986) rfl) rfl
set_option maxRecDepth 100000 in
theorem xw987 : (Jvm.Cond.static ({ cls := "LintDeskLaw", name := "place", desc := "(LLintDesk;I[J)I" } : Jvm.MethodName)) ∈ xWs := xWs_of (lw_T (i := 987) rfl) rfl
set_option maxRecDepth 100000 in
theorem xw989 : (Jvm.Cond.methodLink "LintDeskLaw" (34 : Nat) ({ cls := "LintDesk", name := "place", desc := "(I)I" } : Jvm.MethodName)) ∈ xWs := xWs_of (lw_T (i := 989) rfl) rfl
set_option maxRecDepth 100000 in
theorem xw990 : (Jvm.Cond.instanceMethod ({ cls := "LintDesk", name := "place", desc := "(I)I" } : Jvm.MethodName)) ∈ xWs := xWs_of (lw_T (i := 990) rfl) rfl
set_option maxRecDepth 100000 in
theorem xw991 : (Jvm.Cond.selects "LintDesk" ({ cls := "LintDesk", name := "place", desc := "(I)I" } : Jvm.MethodName) ({ cls := "LintDesk", name := "place", desc := "(I)I" } : Jvm.MethodName)) ∈ xWs := xWs_of (lw_T (i := 991) rfl) rfl
set_option maxRecDepth 100000 in
theorem xw992 : (Jvm.Cond.code ({ cls := "LintDesk", name := "place", desc := "(I)I" } : Jvm.MethodName) prog_1_method_8_code (3 : Nat) (Option.some Jvm.ClassFile.FieldType.int)) ∈ xWs := xWs_of (lw_T (i := 992) rfl) rfl
set_option maxRecDepth 100000 in
theorem xw993 : (Jvm.Cond.methodLink "LintDeskLaw" (88 : Nat) ({ cls := "LintDeskLaw", name := "letter", desc := "(LLintDesk;I[J)I" } : Jvm.MethodName)) ∈ xWs := xWs_of (lw_T (i := 993) rfl) rfl
set_option maxRecDepth 100000 in
theorem xw994 : (Jvm.Cond.static ({ cls := "LintDeskLaw", name := "letter", desc := "(LLintDesk;I[J)I" } : Jvm.MethodName)) ∈ xWs := xWs_of (lw_T (i := 994) rfl) rfl
set_option maxRecDepth 100000 in
theorem xw996 : (Jvm.Cond.methodLink "LintDeskLaw" (37 : Nat) ({ cls := "LintDesk", name := "letter", desc := "(I)I" } : Jvm.MethodName)) ∈ xWs := xWs_of (lw_T (i := 996) rfl) rfl
set_option maxRecDepth 100000 in
theorem xw997 : (Jvm.Cond.instanceMethod ({ cls := "LintDesk", name := "letter", desc := "(I)I" } : Jvm.MethodName)) ∈ xWs := xWs_of (lw_T (i := 997) rfl) rfl
set_option maxRecDepth 100000 in
theorem xw998 : (Jvm.Cond.selects "LintDesk" ({ cls := "LintDesk", name := "letter", desc := "(I)I" } : Jvm.MethodName) ({ cls := "LintDesk", name := "letter", desc := "(I)I" } : Jvm.MethodName)) ∈ xWs := xWs_of (lw_T (i := 998) rfl) rfl
set_option maxRecDepth 100000 in
theorem xw999 : (Jvm.Cond.code ({ cls := "LintDesk", name := "letter", desc := "(I)I" } : Jvm.MethodName) prog_1_method_10_code (2 : Nat) (Option.some Jvm.ClassFile.FieldType.int)) ∈ xWs := xWs_of (lw_T (i := 999) rfl) rfl
set_option maxRecDepth 100000 in
theorem xw1001 : (Jvm.Cond.methodLink "LintDesk" (171 : Nat) ({ cls := "LintDesk$Letters", name := "at", desc := "(I)C" } : Jvm.MethodName)) ∈ xWs := xWs_of (lw_T (i := 1001) rfl) rfl
set_option maxRecDepth 100000 in
theorem xw1002 : (Jvm.Cond.methodLink "LintDeskLaw" (91 : Nat) ({ cls := "LintDeskLaw", name := "declared", desc := "(LLintDesk;II[J)I" } : Jvm.MethodName)) ∈ xWs := xWs_of (lw_T (i := 1002) rfl) rfl
set_option maxRecDepth 100000 in
theorem xw1003 : (Jvm.Cond.static ({ cls := "LintDeskLaw", name := "declared", desc := "(LLintDesk;II[J)I" } : Jvm.MethodName)) ∈ xWs := xWs_of (lw_T (i := 1003) rfl) rfl
set_option maxRecDepth 100000 in
theorem xw1005 : (Jvm.Cond.methodLink "LintDeskLaw" (40 : Nat) ({ cls := "LintDesk", name := "declared", desc := "(II)I" } : Jvm.MethodName)) ∈ xWs := xWs_of (lw_T (i := 1005) rfl) rfl
set_option maxRecDepth 100000 in
theorem xw1006 : (Jvm.Cond.instanceMethod ({ cls := "LintDesk", name := "declared", desc := "(II)I" } : Jvm.MethodName)) ∈ xWs := xWs_of (lw_T (i := 1006) rfl) rfl
set_option maxRecDepth 100000 in
theorem xw1007 : (Jvm.Cond.selects "LintDesk" ({ cls := "LintDesk", name := "declared", desc := "(II)I" } : Jvm.MethodName) ({ cls := "LintDesk", name := "declared", desc := "(II)I" } : Jvm.MethodName)) ∈ xWs := xWs_of (lw_T (i := 1007) rfl) rfl
set_option maxRecDepth 100000 in
theorem xw1008 : (Jvm.Cond.code ({ cls := "LintDesk", name := "declared", desc := "(II)I" } : Jvm.MethodName) prog_1_method_11_code (4 : Nat) (Option.some Jvm.ClassFile.FieldType.int)) ∈ xWs := xWs_of (lw_T (i := 1008) rfl) rfl
set_option maxRecDepth 100000 in
theorem xw1010 : (Jvm.Cond.methodLink "LintDesk" (206 : Nat) ({ cls := "LintDesk$Scopes", name := "levelOf", desc := "(I)I" } : Jvm.MethodName)) ∈ xWs := xWs_of (lw_T (i := 1010) rfl) rfl
set_option maxRecDepth 100000 in
theorem xw1012 : (Jvm.Cond.methodLink "LintDeskLaw" (95 : Nat) ({ cls := "LintDeskLaw", name := "count", desc := "(LLintDesk;I[J)I" } : Jvm.MethodName)) ∈ xWs := xWs_of (lw_T (i := 1012) rfl) rfl
set_option maxRecDepth 100000 in
theorem xw1013 : (Jvm.Cond.static ({ cls := "LintDeskLaw", name := "count", desc := "(LLintDesk;I[J)I" } : Jvm.MethodName)) ∈ xWs := xWs_of (lw_T (i := 1013) rfl) rfl
set_option maxRecDepth 100000 in
theorem xw1015 : (Jvm.Cond.methodLink "LintDeskLaw" (44 : Nat) ({ cls := "LintDesk", name := "count", desc := "(I)I" } : Jvm.MethodName)) ∈ xWs := xWs_of (lw_T (i := 1015) rfl) rfl
set_option maxRecDepth 100000 in
theorem xw1016 : (Jvm.Cond.instanceMethod ({ cls := "LintDesk", name := "count", desc := "(I)I" } : Jvm.MethodName)) ∈ xWs := xWs_of (lw_T (i := 1016) rfl) rfl
set_option maxRecDepth 100000 in
theorem xw1017 : (Jvm.Cond.selects "LintDesk" ({ cls := "LintDesk", name := "count", desc := "(I)I" } : Jvm.MethodName) ({ cls := "LintDesk", name := "count", desc := "(I)I" } : Jvm.MethodName)) ∈ xWs := xWs_of (lw_T (i := 1017) rfl) rfl
set_option maxRecDepth 100000 in
theorem xw1018 : (Jvm.Cond.code ({ cls := "LintDesk", name := "count", desc := "(I)I" } : Jvm.MethodName) prog_1_method_12_code (2 : Nat) (Option.some Jvm.ClassFile.FieldType.int)) ∈ xWs := xWs_of (lw_T (i := 1018) rfl) rfl
set_option maxRecDepth 100000 in
theorem xw1019 : (Jvm.Cond.methodLink "LintDesk" (224 : Nat) ({ cls := "LintDesk$Settings", name := "excusedIn", desc := "(LLintDesk$Reading;)I" } : Jvm.MethodName)) ∈ xWs := xWs_of (lw_T (i := 1019) rfl) rfl
set_option maxRecDepth 100000 in
theorem xw1020 : (Jvm.Cond.instanceMethod ({ cls := "LintDesk$Settings", name := "excusedIn", desc := "(LLintDesk$Reading;)I" } : Jvm.MethodName)) ∈ xWs := xWs_of (lw_T (i := 1020) rfl) rfl
set_option maxRecDepth 100000 in
theorem xw1021 : (Jvm.Cond.selects "LintDesk$Settings" ({ cls := "LintDesk$Settings", name := "excusedIn", desc := "(LLintDesk$Reading;)I" } : Jvm.MethodName) ({ cls := "LintDesk$Settings", name := "excusedIn", desc := "(LLintDesk$Reading;)I" } : Jvm.MethodName)) ∈ xWs := xWs_of (lw_T (i := 1021) rfl) rfl
set_option maxRecDepth 100000 in
theorem xw1022 : (Jvm.Cond.code ({ cls := "LintDesk$Settings", name := "excusedIn", desc := "(LLintDesk$Reading;)I" } : Jvm.MethodName) prog_9_method_9_code (4 : Nat) (Option.some Jvm.ClassFile.FieldType.int)) ∈ xWs := xWs_of (lw_T (i := 1022) rfl) rfl
set_option maxRecDepth 100000 in
theorem xw1024 : (Jvm.Cond.classLink "LintDeskLaw" (48 : Nat) "LintDeskModel") ∈ xWs := xWs_of (lw_T (i := 1024) rfl) rfl
set_option maxRecDepth 100000 in
theorem xw1025 : (Jvm.Cond.instantiable "LintDeskModel" (65 : Nat)) ∈ xWs := xWs_of (lw_T (i := 1025) rfl) rfl
set_option maxRecDepth 100000 in
theorem xw1026 : (Jvm.Cond.methodLink "LintDeskLaw" (50 : Nat) ({ cls := "LintDeskModel", name := "<init>", desc := "()V" } : Jvm.MethodName)) ∈ xWs := xWs_of (lw_T (i := 1026) rfl) rfl
set_option maxRecDepth 100000 in
theorem xw1027 : (Jvm.Cond.instanceMethod ({ cls := "LintDeskModel", name := "<init>", desc := "()V" } : Jvm.MethodName)) ∈ xWs := xWs_of (lw_T (i := 1027) rfl) rfl
set_option maxRecDepth 100000 in
theorem xw1028 : (Jvm.Cond.code ({ cls := "LintDeskModel", name := "<init>", desc := "()V" } : Jvm.MethodName) prog_14_method_1_code (1 : Nat) (Option.none : Option Jvm.ClassFile.FieldType)) ∈ xWs := xWs_of (lw_T (i := 1028) rfl) rfl
set_option maxRecDepth 100000 in
theorem xw1029 : (Jvm.Cond.methodLink "LintDeskModel" (1 : Nat) ({ cls := "java/lang/Object", name := "<init>", desc := "()V" } : Jvm.MethodName)) ∈ xWs := xWs_of (lw_T (i := 1029) rfl) rfl
set_option maxRecDepth 100000 in
theorem xw1030 : (Jvm.Cond.methodLink "LintDeskModel" (138 : Nat) ({ cls := "LintDeskModel", name := "scans", desc := "()V" } : Jvm.MethodName)) ∈ xWs := xWs_of (lw_T (i := 1030) rfl) rfl
set_option maxRecDepth 100000 in
theorem xw1032 : (Jvm.Cond.instanceMethod ({ cls := "LintDeskModel", name := "scans", desc := "()V" } : Jvm.MethodName)) ∈ xWs := xWs_of (lw_T (i := 1032) rfl) rfl
set_option maxRecDepth 100000 in
theorem xw1033 : (Jvm.Cond.code ({ cls := "LintDeskModel", name := "scans", desc := "()V" } : Jvm.MethodName) prog_14_method_25_code (4 : Nat) (Option.none : Option Jvm.ClassFile.FieldType)) ∈ xWs := xWs_of (lw_T (i := 1033) rfl) rfl
set_option maxRecDepth 100000 in
theorem xw1034 : (Jvm.Cond.methodLink "LintDeskModel" (227 : Nat) ({ cls := "LintDeskModel", name := "cuts", desc := "()V" } : Jvm.MethodName)) ∈ xWs := xWs_of (lw_T (i := 1034) rfl) rfl
set_option maxRecDepth 100000 in
theorem xw1036 : (Jvm.Cond.instanceMethod ({ cls := "LintDeskModel", name := "cuts", desc := "()V" } : Jvm.MethodName)) ∈ xWs := xWs_of (lw_T (i := 1036) rfl) rfl
set_option maxRecDepth 100000 in
theorem xw1037 : (Jvm.Cond.code ({ cls := "LintDeskModel", name := "cuts", desc := "()V" } : Jvm.MethodName) prog_14_method_12_code (4 : Nat) (Option.none : Option Jvm.ClassFile.FieldType)) ∈ xWs := xWs_of (lw_T (i := 1037) rfl) rfl
set_option maxRecDepth 100000 in
theorem xw1038 : (Jvm.Cond.methodLink "LintDeskModel" (162 : Nat) ({ cls := "LintDeskModel", name := "isLetter", desc := "(I)Z" } : Jvm.MethodName)) ∈ xWs := xWs_of (lw_T (i := 1038) rfl) rfl
set_option maxRecDepth 100000 in
theorem xw1039 : (Jvm.Cond.static ({ cls := "LintDeskModel", name := "isLetter", desc := "(I)Z" } : Jvm.MethodName)) ∈ xWs := xWs_of (lw_T (i := 1039) rfl) rfl
set_option maxRecDepth 100000 in
theorem xw1040 : (Jvm.Cond.code ({ cls := "LintDeskModel", name := "isLetter", desc := "(I)Z" } : Jvm.MethodName) prog_14_method_5_code (1 : Nat) (Option.some Jvm.ClassFile.FieldType.boolean)) ∈ xWs := xWs_of (lw_T (i := 1040) rfl) rfl
set_option maxRecDepth 100000 in
theorem xw1041 : (Jvm.Cond.methodLink "LintDeskModel" (144 : Nat) ({ cls := "LintDeskModel", name := "in", desc := "(III)Z" } : Jvm.MethodName)) ∈ xWs := xWs_of (lw_T (i := 1041) rfl) rfl
set_option maxRecDepth 100000 in
theorem xw1042 : (Jvm.Cond.static ({ cls := "LintDeskModel", name := "in", desc := "(III)Z" } : Jvm.MethodName)) ∈ xWs := xWs_of (lw_T (i := 1042) rfl) rfl
set_option maxRecDepth 100000 in
theorem xw1043 : (Jvm.Cond.code ({ cls := "LintDeskModel", name := "in", desc := "(III)Z" } : Jvm.MethodName) prog_14_method_3_code (3 : Nat) (Option.some Jvm.ClassFile.FieldType.boolean)) ∈ xWs := xWs_of (lw_T (i := 1043) rfl) rfl
set_option maxRecDepth 100000 in
theorem xw1044 : (Jvm.Cond.methodLink "LintDeskModel" (155 : Nat) ({ cls := "LintDeskModel", name := "c", desc := "(I)I" } : Jvm.MethodName)) ∈ xWs := xWs_of (lw_T (i := 1044) rfl) rfl
set_option maxRecDepth 100000 in
theorem xw1046 : (Jvm.Cond.instanceMethod ({ cls := "LintDeskModel", name := "c", desc := "(I)I" } : Jvm.MethodName)) ∈ xWs := xWs_of (lw_T (i := 1046) rfl) rfl
set_option maxRecDepth 100000 in
theorem xw1047 : (Jvm.Cond.code ({ cls := "LintDeskModel", name := "c", desc := "(I)I" } : Jvm.MethodName) prog_14_method_7_code (2 : Nat) (Option.some Jvm.ClassFile.FieldType.int)) ∈ xWs := xWs_of (lw_T (i := 1047) rfl) rfl
set_option maxRecDepth 100000 in
theorem xw1048 : (Jvm.Cond.methodLink "LintDeskModel" (166 : Nat) ({ cls := "LintDeskModel", name := "isDigit", desc := "(I)Z" } : Jvm.MethodName)) ∈ xWs := xWs_of (lw_T (i := 1048) rfl) rfl
set_option maxRecDepth 100000 in
theorem xw1049 : (Jvm.Cond.static ({ cls := "LintDeskModel", name := "isDigit", desc := "(I)Z" } : Jvm.MethodName)) ∈ xWs := xWs_of (lw_T (i := 1049) rfl) rfl
set_option maxRecDepth 100000 in
theorem xw1050 : (Jvm.Cond.code ({ cls := "LintDeskModel", name := "isDigit", desc := "(I)Z" } : Jvm.MethodName) prog_14_method_6_code (1 : Nat) (Option.some Jvm.ClassFile.FieldType.boolean)) ∈ xWs := xWs_of (lw_T (i := 1050) rfl) rfl
set_option maxRecDepth 100000 in
theorem xw1051 : (Jvm.Cond.methodLink "LintDeskModel" (169 : Nat) ({ cls := "LintDeskModel", name := "word", desc := "(I)I" } : Jvm.MethodName)) ∈ xWs := xWs_of (lw_T (i := 1051) rfl) rfl
set_option maxRecDepth 100000 in
theorem xw1053 : (Jvm.Cond.instanceMethod ({ cls := "LintDeskModel", name := "word", desc := "(I)I" } : Jvm.MethodName)) ∈ xWs := xWs_of (lw_T (i := 1053) rfl) rfl
set_option maxRecDepth 100000 in
theorem xw1054 : (Jvm.Cond.code ({ cls := "LintDeskModel", name := "word", desc := "(I)I" } : Jvm.MethodName) prog_14_method_9_code (3 : Nat) (Option.some Jvm.ClassFile.FieldType.int)) ∈ xWs := xWs_of (lw_T (i := 1054) rfl) rfl
set_option maxRecDepth 100000 in
theorem xw1055 : (Jvm.Cond.methodLink "LintDeskModel" (151 : Nat) ({ cls := "LintDeskModel", name := "spells", desc := "(IIIIIII)Z" } : Jvm.MethodName)) ∈ xWs := xWs_of (lw_T (i := 1055) rfl) rfl
set_option maxRecDepth 100000 in
theorem xw1057 : (Jvm.Cond.instanceMethod ({ cls := "LintDeskModel", name := "spells", desc := "(IIIIIII)Z" } : Jvm.MethodName)) ∈ xWs := xWs_of (lw_T (i := 1057) rfl) rfl
set_option maxRecDepth 100000 in
theorem xw1058 : (Jvm.Cond.code ({ cls := "LintDeskModel", name := "spells", desc := "(IIIIIII)Z" } : Jvm.MethodName) prog_14_method_8_code (9 : Nat) (Option.some Jvm.ClassFile.FieldType.boolean)) ∈ xWs := xWs_of (lw_T (i := 1058) rfl) rfl
set_option maxRecDepth 100000 in
theorem xw1059 : (Jvm.Cond.methodLink "LintDeskModel" (172 : Nat) ({ cls := "LintDeskModel", name := "quoted", desc := "(I)I" } : Jvm.MethodName)) ∈ xWs := xWs_of (lw_T (i := 1059) rfl) rfl
set_option maxRecDepth 100000 in
theorem xw1061 : (Jvm.Cond.instanceMethod ({ cls := "LintDeskModel", name := "quoted", desc := "(I)I" } : Jvm.MethodName)) ∈ xWs := xWs_of (lw_T (i := 1061) rfl) rfl
set_option maxRecDepth 100000 in
theorem xw1062 : (Jvm.Cond.code ({ cls := "LintDeskModel", name := "quoted", desc := "(I)I" } : Jvm.MethodName) prog_14_method_11_code (3 : Nat) (Option.some Jvm.ClassFile.FieldType.int)) ∈ xWs := xWs_of (lw_T (i := 1062) rfl) rfl
set_option maxRecDepth 100000 in
theorem xw1063 : (Jvm.Cond.methodLink "LintDeskModel" (175 : Nat) ({ cls := "LintDeskModel", name := "sign", desc := "(I)I" } : Jvm.MethodName)) ∈ xWs := xWs_of (lw_T (i := 1063) rfl) rfl
set_option maxRecDepth 100000 in
theorem xw1065 : (Jvm.Cond.instanceMethod ({ cls := "LintDeskModel", name := "sign", desc := "(I)I" } : Jvm.MethodName)) ∈ xWs := xWs_of (lw_T (i := 1065) rfl) rfl
set_option maxRecDepth 100000 in
theorem xw1066 : (Jvm.Cond.code ({ cls := "LintDeskModel", name := "sign", desc := "(I)I" } : Jvm.MethodName) prog_14_method_10_code (3 : Nat) (Option.some Jvm.ClassFile.FieldType.int)) ∈ xWs := xWs_of (lw_T (i := 1066) rfl) rfl
set_option maxRecDepth 100000 in
theorem xw1067 : (Jvm.Cond.methodLink "LintDeskModel" (248 : Nat) ({ cls := "LintDeskModel", name := "enters", desc := "(Z)V" } : Jvm.MethodName)) ∈ xWs := xWs_of (lw_T (i := 1067) rfl) rfl
set_option maxRecDepth 100000 in
theorem xw1069 : (Jvm.Cond.instanceMethod ({ cls := "LintDeskModel", name := "enters", desc := "(Z)V" } : Jvm.MethodName)) ∈ xWs := xWs_of (lw_T (i := 1069) rfl) rfl
set_option maxRecDepth 100000 in
theorem xw1070 : (Jvm.Cond.code ({ cls := "LintDeskModel", name := "enters", desc := "(Z)V" } : Jvm.MethodName) prog_14_method_19_code (2 : Nat) (Option.none : Option Jvm.ClassFile.FieldType)) ∈ xWs := xWs_of (lw_T (i := 1070) rfl) rfl
set_option maxRecDepth 100000 in
theorem xw1071 : (Jvm.Cond.methodLink "LintDeskModel" (251 : Nat) ({ cls := "LintDeskModel", name := "lists", desc := "(II)V" } : Jvm.MethodName)) ∈ xWs := xWs_of (lw_T (i := 1071) rfl) rfl
set_option maxRecDepth 100000 in
theorem xw1073 : (Jvm.Cond.instanceMethod ({ cls := "LintDeskModel", name := "lists", desc := "(II)V" } : Jvm.MethodName)) ∈ xWs := xWs_of (lw_T (i := 1073) rfl) rfl
set_option maxRecDepth 100000 in
theorem xw1074 : (Jvm.Cond.code ({ cls := "LintDeskModel", name := "lists", desc := "(II)V" } : Jvm.MethodName) prog_14_method_24_code (3 : Nat) (Option.none : Option Jvm.ClassFile.FieldType)) ∈ xWs := xWs_of (lw_T (i := 1074) rfl) rfl
set_option maxRecDepth 100000 in
theorem xw1075 : (Jvm.Cond.methodLink "LintDeskModel" (223 : Nat) ({ cls := "LintDeskModel", name := "push", desc := "(IIII)V" } : Jvm.MethodName)) ∈ xWs := xWs_of (lw_T (i := 1075) rfl) rfl
set_option maxRecDepth 100000 in
theorem xw1077 : (Jvm.Cond.instanceMethod ({ cls := "LintDeskModel", name := "push", desc := "(IIII)V" } : Jvm.MethodName)) ∈ xWs := xWs_of (lw_T (i := 1077) rfl) rfl
set_option maxRecDepth 100000 in
theorem xw1078 : (Jvm.Cond.code ({ cls := "LintDeskModel", name := "push", desc := "(IIII)V" } : Jvm.MethodName) prog_14_method_23_code (5 : Nat) (Option.none : Option Jvm.ClassFile.FieldType)) ∈ xWs := xWs_of (lw_T (i := 1078) rfl) rfl
set_option maxRecDepth 100000 in
theorem xw1079 : (Jvm.Cond.methodLink "LintDeskModel" (210 : Nat) ({ cls := "LintDeskModel", name := "is", desc := "(I)Z" } : Jvm.MethodName)) ∈ xWs := xWs_of (lw_T (i := 1079) rfl) rfl
set_option maxRecDepth 100000 in
theorem xw1081 : (Jvm.Cond.instanceMethod ({ cls := "LintDeskModel", name := "is", desc := "(I)Z" } : Jvm.MethodName)) ∈ xWs := xWs_of (lw_T (i := 1081) rfl) rfl
set_option maxRecDepth 100000 in
theorem xw1082 : (Jvm.Cond.code ({ cls := "LintDeskModel", name := "is", desc := "(I)Z" } : Jvm.MethodName) prog_14_method_20_code (2 : Nat) (Option.some Jvm.ClassFile.FieldType.boolean)) ∈ xWs := xWs_of (lw_T (i := 1082) rfl) rfl
set_option maxRecDepth 100000 in
theorem xw1083 : (Jvm.Cond.methodLink "LintDeskModel" (254 : Nat) ({ cls := "LintDeskModel", name := "statement", desc := "(III)V" } : Jvm.MethodName)) ∈ xWs := xWs_of (lw_T (i := 1083) rfl) rfl
set_option maxRecDepth 100000 in
theorem xw1085 : (Jvm.Cond.instanceMethod ({ cls := "LintDeskModel", name := "statement", desc := "(III)V" } : Jvm.MethodName)) ∈ xWs := xWs_of (lw_T (i := 1085) rfl) rfl
set_option maxRecDepth 100000 in
theorem xw1086 : (Jvm.Cond.code ({ cls := "LintDeskModel", name := "statement", desc := "(III)V" } : Jvm.MethodName) prog_14_method_28_code (7 : Nat) (Option.none : Option Jvm.ClassFile.FieldType)) ∈ xWs := xWs_of (lw_T (i := 1086) rfl) rfl
set_option maxRecDepth 100000 in
theorem xw1087 : (Jvm.Cond.methodLink "LintDeskModel" (213 : Nat) ({ cls := "LintDeskModel", name := "wrongs", desc := "(Z)V" } : Jvm.MethodName)) ∈ xWs := xWs_of (lw_T (i := 1087) rfl) rfl
set_option maxRecDepth 100000 in
theorem xw1089 : (Jvm.Cond.instanceMethod ({ cls := "LintDeskModel", name := "wrongs", desc := "(Z)V" } : Jvm.MethodName)) ∈ xWs := xWs_of (lw_T (i := 1089) rfl) rfl
set_option maxRecDepth 100000 in
theorem xw1090 : (Jvm.Cond.code ({ cls := "LintDeskModel", name := "wrongs", desc := "(Z)V" } : Jvm.MethodName) prog_14_method_21_code (2 : Nat) (Option.none : Option Jvm.ClassFile.FieldType)) ∈ xWs := xWs_of (lw_T (i := 1090) rfl) rfl
set_option maxRecDepth 100000 in
theorem xw1091 : (Jvm.Cond.methodLink "LintDeskModel" (275 : Nat) ({ cls := "LintDeskModel", name := "excusing", desc := "(III)V" } : Jvm.MethodName)) ∈ xWs := xWs_of (lw_T (i := 1091) rfl) rfl
set_option maxRecDepth 100000 in
theorem xw1093 : (Jvm.Cond.instanceMethod ({ cls := "LintDeskModel", name := "excusing", desc := "(III)V" } : Jvm.MethodName)) ∈ xWs := xWs_of (lw_T (i := 1093) rfl) rfl
set_option maxRecDepth 100000 in
theorem xw1094 : (Jvm.Cond.code ({ cls := "LintDeskModel", name := "excusing", desc := "(III)V" } : Jvm.MethodName) prog_14_method_29_code (4 : Nat) (Option.none : Option Jvm.ClassFile.FieldType)) ∈ xWs := xWs_of (lw_T (i := 1094) rfl) rfl
set_option maxRecDepth 100000 in
theorem xw1095 : (Jvm.Cond.methodLink "LintDeskModel" (278 : Nat) ({ cls := "LintDeskModel", name := "declaration", desc := "(II)V" } : Jvm.MethodName)) ∈ xWs := xWs_of (lw_T (i := 1095) rfl) rfl
set_option maxRecDepth 100000 in
theorem xw1097 : (Jvm.Cond.instanceMethod ({ cls := "LintDeskModel", name := "declaration", desc := "(II)V" } : Jvm.MethodName)) ∈ xWs := xWs_of (lw_T (i := 1097) rfl) rfl
set_option maxRecDepth 100000 in
theorem xw1098 : (Jvm.Cond.code ({ cls := "LintDeskModel", name := "declaration", desc := "(II)V" } : Jvm.MethodName) prog_14_method_30_code (6 : Nat) (Option.none : Option Jvm.ClassFile.FieldType)) ∈ xWs := xWs_of (lw_T (i := 1098) rfl) rfl
set_option maxRecDepth 100000 in
theorem xw1099 : (Jvm.Cond.methodLink "LintDeskModel" (258 : Nat) ({ cls := "LintDeskModel", name := "takes", desc := "(I)V" } : Jvm.MethodName)) ∈ xWs := xWs_of (lw_T (i := 1099) rfl) rfl
set_option maxRecDepth 100000 in
theorem xw1101 : (Jvm.Cond.instanceMethod ({ cls := "LintDeskModel", name := "takes", desc := "(I)V" } : Jvm.MethodName)) ∈ xWs := xWs_of (lw_T (i := 1101) rfl) rfl
set_option maxRecDepth 100000 in
theorem xw1102 : (Jvm.Cond.code ({ cls := "LintDeskModel", name := "takes", desc := "(I)V" } : Jvm.MethodName) prog_14_method_22_code (2 : Nat) (Option.none : Option Jvm.ClassFile.FieldType)) ∈ xWs := xWs_of (lw_T (i := 1102) rfl) rfl
set_option maxRecDepth 100000 in
theorem xw1103 : (Jvm.Cond.methodLink "LintDeskModel" (284 : Nat) ({ cls := "LintDeskModel", name := "declares", desc := "(II)I" } : Jvm.MethodName)) ∈ xWs := xWs_of (lw_T (i := 1103) rfl) rfl
set_option maxRecDepth 100000 in
theorem xw1105 : (Jvm.Cond.instanceMethod ({ cls := "LintDeskModel", name := "declares", desc := "(II)I" } : Jvm.MethodName)) ∈ xWs := xWs_of (lw_T (i := 1105) rfl) rfl
set_option maxRecDepth 100000 in
theorem xw1106 : (Jvm.Cond.code ({ cls := "LintDeskModel", name := "declares", desc := "(II)I" } : Jvm.MethodName) prog_14_method_17_code (5 : Nat) (Option.some Jvm.ClassFile.FieldType.int)) ∈ xWs := xWs_of (lw_T (i := 1106) rfl) rfl
set_option maxRecDepth 100000 in
theorem xw1107 : (Jvm.Cond.methodLink "LintDeskModel" (192 : Nat) ({ cls := "LintDeskModel", name := "fnAround", desc := "(I)I" } : Jvm.MethodName)) ∈ xWs := xWs_of (lw_T (i := 1107) rfl) rfl
set_option maxRecDepth 100000 in
theorem xw1109 : (Jvm.Cond.instanceMethod ({ cls := "LintDeskModel", name := "fnAround", desc := "(I)I" } : Jvm.MethodName)) ∈ xWs := xWs_of (lw_T (i := 1109) rfl) rfl
set_option maxRecDepth 100000 in
theorem xw1110 : (Jvm.Cond.code ({ cls := "LintDeskModel", name := "fnAround", desc := "(I)I" } : Jvm.MethodName) prog_14_method_16_code (3 : Nat) (Option.some Jvm.ClassFile.FieldType.int)) ∈ xWs := xWs_of (lw_T (i := 1110) rfl) rfl
set_option maxRecDepth 100000 in
theorem xw1111 : (Jvm.Cond.methodLink "LintDeskModel" (185 : Nat) ({ cls := "LintDeskModel", name := "thingIn", desc := "(II)I" } : Jvm.MethodName)) ∈ xWs := xWs_of (lw_T (i := 1111) rfl) rfl
set_option maxRecDepth 100000 in
theorem xw1113 : (Jvm.Cond.instanceMethod ({ cls := "LintDeskModel", name := "thingIn", desc := "(II)I" } : Jvm.MethodName)) ∈ xWs := xWs_of (lw_T (i := 1113) rfl) rfl
set_option maxRecDepth 100000 in
theorem xw1114 : (Jvm.Cond.code ({ cls := "LintDeskModel", name := "thingIn", desc := "(II)I" } : Jvm.MethodName) prog_14_method_14_code (4 : Nat) (Option.some Jvm.ClassFile.FieldType.int)) ∈ xWs := xWs_of (lw_T (i := 1114) rfl) rfl
set_option maxRecDepth 100000 in
theorem xw1115 : (Jvm.Cond.methodLink "LintDeskModel" (181 : Nat) ({ cls := "LintDeskModel", name := "alike", desc := "(II)Z" } : Jvm.MethodName)) ∈ xWs := xWs_of (lw_T (i := 1115) rfl) rfl
set_option maxRecDepth 100000 in
theorem xw1117 : (Jvm.Cond.instanceMethod ({ cls := "LintDeskModel", name := "alike", desc := "(II)Z" } : Jvm.MethodName)) ∈ xWs := xWs_of (lw_T (i := 1117) rfl) rfl
set_option maxRecDepth 100000 in
theorem xw1118 : (Jvm.Cond.code ({ cls := "LintDeskModel", name := "alike", desc := "(II)Z" } : Jvm.MethodName) prog_14_method_13_code (5 : Nat) (Option.some Jvm.ClassFile.FieldType.boolean)) ∈ xWs := xWs_of (lw_T (i := 1118) rfl) rfl
set_option maxRecDepth 100000 in
theorem xw1119 : (Jvm.Cond.methodLink "LintDeskModel" (281 : Nat) ({ cls := "LintDeskModel", name := "function", desc := "(I)V" } : Jvm.MethodName)) ∈ xWs := xWs_of (lw_T (i := 1119) rfl) rfl
set_option maxRecDepth 100000 in
theorem xw1121 : (Jvm.Cond.instanceMethod ({ cls := "LintDeskModel", name := "function", desc := "(I)V" } : Jvm.MethodName)) ∈ xWs := xWs_of (lw_T (i := 1121) rfl) rfl
set_option maxRecDepth 100000 in
theorem xw1122 : (Jvm.Cond.code ({ cls := "LintDeskModel", name := "function", desc := "(I)V" } : Jvm.MethodName) prog_14_method_31_code (3 : Nat) (Option.none : Option Jvm.ClassFile.FieldType)) ∈ xWs := xWs_of (lw_T (i := 1122) rfl) rfl
set_option maxRecDepth 100000 in
theorem xw1123 : (Jvm.Cond.methodLink "LintDeskModel" (262 : Nat) ({ cls := "LintDeskModel", name := "value", desc := "(II)V" } : Jvm.MethodName)) ∈ xWs := xWs_of (lw_T (i := 1123) rfl) rfl
set_option maxRecDepth 100000 in
theorem xw1125 : (Jvm.Cond.instanceMethod ({ cls := "LintDeskModel", name := "value", desc := "(II)V" } : Jvm.MethodName)) ∈ xWs := xWs_of (lw_T (i := 1125) rfl) rfl
set_option maxRecDepth 100000 in
theorem xw1126 : (Jvm.Cond.code ({ cls := "LintDeskModel", name := "value", desc := "(II)V" } : Jvm.MethodName) prog_14_method_26_code (3 : Nat) (Option.none : Option Jvm.ClassFile.FieldType)) ∈ xWs := xWs_of (lw_T (i := 1126) rfl) rfl
set_option maxRecDepth 100000 in
theorem xw1127 : (Jvm.Cond.methodLink "LintDeskModel" (271 : Nat) ({ cls := "LintDeskModel", name := "use", desc := "(IZ)V" } : Jvm.MethodName)) ∈ xWs := xWs_of (lw_T (i := 1127) rfl) rfl
set_option maxRecDepth 100000 in
theorem xw1129 : (Jvm.Cond.instanceMethod ({ cls := "LintDeskModel", name := "use", desc := "(IZ)V" } : Jvm.MethodName)) ∈ xWs := xWs_of (lw_T (i := 1129) rfl) rfl
set_option maxRecDepth 100000 in
theorem xw1130 : (Jvm.Cond.code ({ cls := "LintDeskModel", name := "use", desc := "(IZ)V" } : Jvm.MethodName) prog_14_method_18_code (3 : Nat) (Option.none : Option Jvm.ClassFile.FieldType)) ∈ xWs := xWs_of (lw_T (i := 1130) rfl) rfl
set_option maxRecDepth 100000 in
theorem xw1131 : (Jvm.Cond.methodLink "LintDeskModel" (265 : Nat) ({ cls := "LintDeskModel", name := "part", desc := "(I)V" } : Jvm.MethodName)) ∈ xWs := xWs_of (lw_T (i := 1131) rfl) rfl
set_option maxRecDepth 100000 in
theorem xw1133 : (Jvm.Cond.instanceMethod ({ cls := "LintDeskModel", name := "part", desc := "(I)V" } : Jvm.MethodName)) ∈ xWs := xWs_of (lw_T (i := 1133) rfl) rfl
set_option maxRecDepth 100000 in
theorem xw1134 : (Jvm.Cond.code ({ cls := "LintDeskModel", name := "part", desc := "(I)V" } : Jvm.MethodName) prog_14_method_27_code (4 : Nat) (Option.none : Option Jvm.ClassFile.FieldType)) ∈ xWs := xWs_of (lw_T (i := 1134) rfl) rfl
set_option maxRecDepth 100000 in
theorem xw1135 : (Jvm.Cond.methodLink "LintDeskModel" (268 : Nat) ({ cls := "LintDeskModel", name := "belongs", desc := "()V" } : Jvm.MethodName)) ∈ xWs := xWs_of (lw_T (i := 1135) rfl) rfl
set_option maxRecDepth 100000 in
theorem xw1137 : (Jvm.Cond.instanceMethod ({ cls := "LintDeskModel", name := "belongs", desc := "()V" } : Jvm.MethodName)) ∈ xWs := xWs_of (lw_T (i := 1137) rfl) rfl
set_option maxRecDepth 100000 in
theorem xw1138 : (Jvm.Cond.code ({ cls := "LintDeskModel", name := "belongs", desc := "()V" } : Jvm.MethodName) prog_14_method_32_code (3 : Nat) (Option.none : Option Jvm.ClassFile.FieldType)) ∈ xWs := xWs_of (lw_T (i := 1138) rfl) rfl
set_option maxRecDepth 100000 in
theorem xw1139 : (Jvm.Cond.methodLink "LintDeskModel" (287 : Nat) ({ cls := "LintDeskModel", name := "thingAround", desc := "(II)I" } : Jvm.MethodName)) ∈ xWs := xWs_of (lw_T (i := 1139) rfl) rfl
set_option maxRecDepth 100000 in
theorem xw1141 : (Jvm.Cond.instanceMethod ({ cls := "LintDeskModel", name := "thingAround", desc := "(II)I" } : Jvm.MethodName)) ∈ xWs := xWs_of (lw_T (i := 1141) rfl) rfl
set_option maxRecDepth 100000 in
theorem xw1142 : (Jvm.Cond.code ({ cls := "LintDeskModel", name := "thingAround", desc := "(II)I" } : Jvm.MethodName) prog_14_method_15_code (4 : Nat) (Option.some Jvm.ClassFile.FieldType.int)) ∈ xWs := xWs_of (lw_T (i := 1142) rfl) rfl
set_option maxRecDepth 100000 in
theorem xw1143 : (Jvm.Cond.fieldLink "LintDeskModel" (141 : Nat) "LintDeskModel" "err" "I") ∈ xWs := xWs_of (lw_T (i := 1143) rfl) rfl
set_option maxRecDepth 100000 in
theorem xw1144 : (Jvm.Cond.fieldLink "LintDeskModel" (326 : Nat) "LintDeskModel" "written" "I") ∈ xWs := xWs_of (lw_T (i := 1144) rfl) rfl
set_option maxRecDepth 100000 in
theorem xw1145 : (Jvm.Cond.fieldLink "LintDeskModel" (148 : Nat) "LintDeskModel" "size" "I") ∈ xWs := xWs_of (lw_T (i := 1145) rfl) rfl
set_option maxRecDepth 100000 in
theorem xw1146 : (Jvm.Cond.fieldLink "LintDeskModel" (7 : Nat) "LintDeskModel" "wrongAt" "I") ∈ xWs := xWs_of (lw_T (i := 1146) rfl) rfl
set_option maxRecDepth 100000 in
theorem xw1147 : (Jvm.Cond.fieldLink "LintDeskModel" (207 : Nat) "LintDeskModel" "bad" "I") ∈ xWs := xWs_of (lw_T (i := 1147) rfl) rfl
set_option maxRecDepth 100000 in
theorem xw1148 : (Jvm.Cond.fieldLink "LintDeskModel" (342 : Nat) "LintDeskModel" "rounds" "I") ∈ xWs := xWs_of (lw_T (i := 1148) rfl) rfl
set_option maxRecDepth 100000 in
theorem xw1149 : (Jvm.Cond.fieldLink "LintDeskModel" (290 : Nat) "LintDeskModel" "given" "I") ∈ xWs := xWs_of (lw_T (i := 1149) rfl) rfl
set_option maxRecDepth 100000 in
theorem xw1150 : (Jvm.Cond.fieldLink "LintDeskModel" (204 : Nat) "LintDeskModel" "at" "I") ∈ xWs := xWs_of (lw_T (i := 1150) rfl) rfl
set_option maxRecDepth 100000 in
theorem xw1151 : (Jvm.Cond.fieldLink "LintDeskModel" (217 : Nat) "LintDeskModel" "top" "I") ∈ xWs := xWs_of (lw_T (i := 1151) rfl) rfl
set_option maxRecDepth 100000 in
theorem xw1152 : (Jvm.Cond.fieldLink "LintDeskModel" (159 : Nat) "LintDeskModel" "tokens" "I") ∈ xWs := xWs_of (lw_T (i := 1152) rfl) rfl
set_option maxRecDepth 100000 in
theorem xw1153 : (Jvm.Cond.fieldLink "LintDeskModel" (13 : Nat) "LintDeskModel" "draft" "[I") ∈ xWs := xWs_of (lw_T (i := 1153) rfl) rfl
set_option maxRecDepth 100000 in
theorem xw1154 : (Jvm.Cond.fieldLink "LintDeskModel" (17 : Nat) "LintDeskModel" "text" "[I") ∈ xWs := xWs_of (lw_T (i := 1154) rfl) rfl
set_option maxRecDepth 100000 in
theorem xw1155 : (Jvm.Cond.fieldLink "LintDeskModel" (20 : Nat) "LintDeskModel" "old" "[I") ∈ xWs := xWs_of (lw_T (i := 1155) rfl) rfl
set_option maxRecDepth 100000 in
theorem xw1156 : (Jvm.Cond.fieldLink "LintDeskModel" (23 : Nat) "LintDeskModel" "next" "[I") ∈ xWs := xWs_of (lw_T (i := 1156) rfl) rfl
set_option maxRecDepth 100000 in
theorem xw1157 : (Jvm.Cond.fieldLink "LintDeskModel" (26 : Nat) "LintDeskModel" "names" "[I") ∈ xWs := xWs_of (lw_T (i := 1157) rfl) rfl
set_option maxRecDepth 100000 in
theorem xw1158 : (Jvm.Cond.fieldLink "LintDeskModel" (29 : Nat) "LintDeskModel" "nameSizes" "[I") ∈ xWs := xWs_of (lw_T (i := 1158) rfl) rfl
set_option maxRecDepth 100000 in
theorem xw1159 : (Jvm.Cond.fieldLink "LintDeskModel" (32 : Nat) "LintDeskModel" "off" "[Z") ∈ xWs := xWs_of (lw_T (i := 1159) rfl) rfl
set_option maxRecDepth 100000 in
theorem xw1160 : (Jvm.Cond.fieldLink "LintDeskModel" (36 : Nat) "LintDeskModel" "kind" "[I") ∈ xWs := xWs_of (lw_T (i := 1160) rfl) rfl
set_option maxRecDepth 100000 in
theorem xw1161 : (Jvm.Cond.fieldLink "LintDeskModel" (39 : Nat) "LintDeskModel" "from" "[I") ∈ xWs := xWs_of (lw_T (i := 1161) rfl) rfl
set_option maxRecDepth 100000 in
theorem xw1162 : (Jvm.Cond.fieldLink "LintDeskModel" (42 : Nat) "LintDeskModel" "to" "[I") ∈ xWs := xWs_of (lw_T (i := 1162) rfl) rfl
set_option maxRecDepth 100000 in
theorem xw1163 : (Jvm.Cond.fieldLink "LintDeskModel" (45 : Nat) "LintDeskModel" "item" "[I") ∈ xWs := xWs_of (lw_T (i := 1163) rfl) rfl
set_option maxRecDepth 100000 in
theorem xw1164 : (Jvm.Cond.fieldLink "LintDeskModel" (48 : Nat) "LintDeskModel" "deep" "[I") ∈ xWs := xWs_of (lw_T (i := 1164) rfl) rfl
set_option maxRecDepth 100000 in
theorem xw1165 : (Jvm.Cond.fieldLink "LintDeskModel" (51 : Nat) "LintDeskModel" "aux" "[I") ∈ xWs := xWs_of (lw_T (i := 1165) rfl) rfl
set_option maxRecDepth 100000 in
theorem xw1166 : (Jvm.Cond.fieldLink "LintDeskModel" (54 : Nat) "LintDeskModel" "more" "[I") ∈ xWs := xWs_of (lw_T (i := 1166) rfl) rfl
set_option maxRecDepth 100000 in
theorem xw1167 : (Jvm.Cond.fieldLink "LintDeskModel" (57 : Nat) "LintDeskModel" "around" "[I") ∈ xWs := xWs_of (lw_T (i := 1167) rfl) rfl
set_option maxRecDepth 100000 in
theorem xw1168 : (Jvm.Cond.fieldLink "LintDeskModel" (60 : Nat) "LintDeskModel" "back" "[I") ∈ xWs := xWs_of (lw_T (i := 1168) rfl) rfl
set_option maxRecDepth 100000 in
theorem xw1169 : (Jvm.Cond.fieldLink "LintDeskModel" (63 : Nat) "LintDeskModel" "isFn" "[Z") ∈ xWs := xWs_of (lw_T (i := 1169) rfl) rfl
set_option maxRecDepth 100000 in
theorem xw1170 : (Jvm.Cond.fieldLink "LintDeskModel" (201 : Nat) "LintDeskModel" "scopes" "I") ∈ xWs := xWs_of (lw_T (i := 1170) rfl) rfl
set_option maxRecDepth 100000 in
theorem xw1171 : (Jvm.Cond.fieldLink "LintDeskModel" (189 : Nat) "LintDeskModel" "scope" "I") ∈ xWs := xWs_of (lw_T (i := 1171) rfl) rfl
set_option maxRecDepth 100000 in
theorem xw1172 : (Jvm.Cond.fieldLink "LintDeskModel" (220 : Nat) "LintDeskModel" "lists" "I") ∈ xWs := xWs_of (lw_T (i := 1172) rfl) rfl
set_option maxRecDepth 100000 in
theorem xw1173 : (Jvm.Cond.fieldLink "LintDeskModel" (66 : Nat) "LintDeskModel" "first" "[I") ∈ xWs := xWs_of (lw_T (i := 1173) rfl) rfl
set_option maxRecDepth 100000 in
theorem xw1174 : (Jvm.Cond.fieldLink "LintDeskModel" (69 : Nat) "LintDeskModel" "where" "[I") ∈ xWs := xWs_of (lw_T (i := 1174) rfl) rfl
set_option maxRecDepth 100000 in
theorem xw1175 : (Jvm.Cond.fieldLink "LintDeskModel" (72 : Nat) "LintDeskModel" "sort" "[I") ∈ xWs := xWs_of (lw_T (i := 1175) rfl) rfl
set_option maxRecDepth 100000 in
theorem xw1176 : (Jvm.Cond.fieldLink "LintDeskModel" (75 : Nat) "LintDeskModel" "times" "[I") ∈ xWs := xWs_of (lw_T (i := 1176) rfl) rfl
set_option maxRecDepth 100000 in
theorem xw1177 : (Jvm.Cond.fieldLink "LintDeskModel" (78 : Nat) "LintDeskModel" "reads" "[I") ∈ xWs := xWs_of (lw_T (i := 1177) rfl) rfl
set_option maxRecDepth 100000 in
theorem xw1178 : (Jvm.Cond.fieldLink "LintDeskModel" (81 : Nat) "LintDeskModel" "writes" "[I") ∈ xWs := xWs_of (lw_T (i := 1178) rfl) rfl
set_option maxRecDepth 100000 in
theorem xw1179 : (Jvm.Cond.fieldLink "LintDeskModel" (178 : Nat) "LintDeskModel" "things" "I") ∈ xWs := xWs_of (lw_T (i := 1179) rfl) rfl
set_option maxRecDepth 100000 in
theorem xw1180 : (Jvm.Cond.fieldLink "LintDeskModel" (84 : Nat) "LintDeskModel" "useToken" "[I") ∈ xWs := xWs_of (lw_T (i := 1180) rfl) rfl
set_option maxRecDepth 100000 in
theorem xw1181 : (Jvm.Cond.fieldLink "LintDeskModel" (87 : Nat) "LintDeskModel" "useScope" "[I") ∈ xWs := xWs_of (lw_T (i := 1181) rfl) rfl
set_option maxRecDepth 100000 in
theorem xw1182 : (Jvm.Cond.fieldLink "LintDeskModel" (90 : Nat) "LintDeskModel" "useThing" "[I") ∈ xWs := xWs_of (lw_T (i := 1182) rfl) rfl
set_option maxRecDepth 100000 in
theorem xw1183 : (Jvm.Cond.fieldLink "LintDeskModel" (93 : Nat) "LintDeskModel" "useWrites" "[Z") ∈ xWs := xWs_of (lw_T (i := 1183) rfl) rfl
set_option maxRecDepth 100000 in
theorem xw1184 : (Jvm.Cond.fieldLink "LintDeskModel" (198 : Nat) "LintDeskModel" "uses" "I") ∈ xWs := xWs_of (lw_T (i := 1184) rfl) rfl
set_option maxRecDepth 100000 in
theorem xw1185 : (Jvm.Cond.fieldLink "LintDeskModel" (96 : Nat) "LintDeskModel" "again" "[I") ∈ xWs := xWs_of (lw_T (i := 1185) rfl) rfl
set_option maxRecDepth 100000 in
theorem xw1186 : (Jvm.Cond.fieldLink "LintDeskModel" (99 : Nat) "LintDeskModel" "dead" "[I") ∈ xWs := xWs_of (lw_T (i := 1186) rfl) rfl
set_option maxRecDepth 100000 in
theorem xw1187 : (Jvm.Cond.fieldLink "LintDeskModel" (102 : Nat) "LintDeskModel" "equal" "[I") ∈ xWs := xWs_of (lw_T (i := 1187) rfl) rfl
set_option maxRecDepth 100000 in
theorem xw1188 : (Jvm.Cond.fieldLink "LintDeskModel" (105 : Nat) "LintDeskModel" "fixed" "[I") ∈ xWs := xWs_of (lw_T (i := 1188) rfl) rfl
set_option maxRecDepth 100000 in
theorem xw1189 : (Jvm.Cond.fieldLink "LintDeskModel" (108 : Nat) "LintDeskModel" "fixedThing" "[I") ∈ xWs := xWs_of (lw_T (i := 1189) rfl) rfl
set_option maxRecDepth 100000 in
theorem xw1190 : (Jvm.Cond.fieldLink "LintDeskModel" (111 : Nat) "LintDeskModel" "empty" "[I") ∈ xWs := xWs_of (lw_T (i := 1190) rfl) rfl
set_option maxRecDepth 100000 in
theorem xw1191 : (Jvm.Cond.fieldLink "LintDeskModel" (114 : Nat) "LintDeskModel" "emptyEnd" "[I") ∈ xWs := xWs_of (lw_T (i := 1191) rfl) rfl
set_option maxRecDepth 100000 in
theorem xw1192 : (Jvm.Cond.fieldLink "LintDeskModel" (117 : Nat) "LintDeskModel" "spare" "[I") ∈ xWs := xWs_of (lw_T (i := 1192) rfl) rfl
set_option maxRecDepth 100000 in
theorem xw1193 : (Jvm.Cond.fieldLink "LintDeskModel" (120 : Nat) "LintDeskModel" "excuse" "[I") ∈ xWs := xWs_of (lw_T (i := 1193) rfl) rfl
set_option maxRecDepth 100000 in
theorem xw1194 : (Jvm.Cond.fieldLink "LintDeskModel" (123 : Nat) "LintDeskModel" "excuseFrom" "[I") ∈ xWs := xWs_of (lw_T (i := 1194) rfl) rfl
set_option maxRecDepth 100000 in
theorem xw1195 : (Jvm.Cond.fieldLink "LintDeskModel" (126 : Nat) "LintDeskModel" "excuseTo" "[I") ∈ xWs := xWs_of (lw_T (i := 1195) rfl) rfl
set_option maxRecDepth 100000 in
theorem xw1196 : (Jvm.Cond.fieldLink "LintDeskModel" (129 : Nat) "LintDeskModel" "emptyGoes" "[Z") ∈ xWs := xWs_of (lw_T (i := 1196) rfl) rfl
set_option maxRecDepth 100000 in
theorem xw1197 : (Jvm.Cond.fieldLink "LintDeskModel" (195 : Nat) "LintDeskModel" "agains" "I") ∈ xWs := xWs_of (lw_T (i := 1197) rfl) rfl
set_option maxRecDepth 100000 in
theorem xw1198 : (Jvm.Cond.fieldLink "LintDeskModel" (230 : Nat) "LintDeskModel" "deads" "I") ∈ xWs := xWs_of (lw_T (i := 1198) rfl) rfl
set_option maxRecDepth 100000 in
theorem xw1199 : (Jvm.Cond.fieldLink "LintDeskModel" (233 : Nat) "LintDeskModel" "sames" "I") ∈ xWs := xWs_of (lw_T (i := 1199) rfl) rfl
set_option maxRecDepth 100000 in
theorem xw1200 : (Jvm.Cond.fieldLink "LintDeskModel" (236 : Nat) "LintDeskModel" "fixeds" "I") ∈ xWs := xWs_of (lw_T (i := 1200) rfl) rfl
set_option maxRecDepth 100000 in
theorem xw1201 : (Jvm.Cond.fieldLink "LintDeskModel" (239 : Nat) "LintDeskModel" "empties" "I") ∈ xWs := xWs_of (lw_T (i := 1201) rfl) rfl
set_option maxRecDepth 100000 in
theorem xw1202 : (Jvm.Cond.fieldLink "LintDeskModel" (242 : Nat) "LintDeskModel" "spares" "I") ∈ xWs := xWs_of (lw_T (i := 1202) rfl) rfl
set_option maxRecDepth 100000 in
theorem xw1203 : (Jvm.Cond.fieldLink "LintDeskModel" (245 : Nat) "LintDeskModel" "excuses" "I") ∈ xWs := xWs_of (lw_T (i := 1203) rfl) rfl
set_option maxRecDepth 100000 in
theorem xw1204 : (Jvm.Cond.fieldLink "LintDeskModel" (132 : Nat) "LintDeskModel" "foundRule" "[I") ∈ xWs := xWs_of (lw_T (i := 1204) rfl) rfl
set_option maxRecDepth 100000 in
theorem xw1205 : (Jvm.Cond.fieldLink "LintDeskModel" (135 : Nat) "LintDeskModel" "foundPlace" "[I") ∈ xWs := xWs_of (lw_T (i := 1205) rfl) rfl
set_option maxRecDepth 100000 in
theorem xw1206 : (Jvm.Cond.fieldLink "LintDeskModel" (296 : Nat) "LintDeskModel" "findings" "I") ∈ xWs := xWs_of (lw_T (i := 1206) rfl) rfl
set_option maxRecDepth 100000 in
theorem xw1207 : (Jvm.Cond.fieldLink "LintDeskModel" (293 : Nat) "LintDeskModel" "excused" "I") ∈ xWs := xWs_of (lw_T (i := 1207) rfl) rfl
set_option maxRecDepth 100000 in
theorem xw1208 : (Jvm.Cond.lays "LintDeskModel" "LintDeskModel" "err" "I") ∈ xWs := xWs_of (lw_T (i := 1208) rfl) rfl
set_option maxRecDepth 100000 in
theorem xw1210 : (Jvm.Cond.lays "LintDeskModel" "LintDeskModel" "written" "I") ∈ xWs := xWs_of (lw_T (i := 1210) rfl) rfl
set_option maxRecDepth 100000 in
theorem xw1212 : (Jvm.Cond.lays "LintDeskModel" "LintDeskModel" "size" "I") ∈ xWs := xWs_of (lw_T (i := 1212) rfl) rfl
set_option maxRecDepth 100000 in
theorem xw1214 : (Jvm.Cond.lays "LintDeskModel" "LintDeskModel" "wrongAt" "I") ∈ xWs := xWs_of (lw_T (i := 1214) rfl) rfl
set_option maxRecDepth 100000 in
theorem xw1216 : (Jvm.Cond.lays "LintDeskModel" "LintDeskModel" "bad" "I") ∈ xWs := xWs_of (lw_T (i := 1216) rfl) rfl
set_option maxRecDepth 100000 in
theorem xw1218 : (Jvm.Cond.lays "LintDeskModel" "LintDeskModel" "rounds" "I") ∈ xWs := xWs_of (lw_T (i := 1218) rfl) rfl
set_option maxRecDepth 100000 in
theorem xw1220 : (Jvm.Cond.lays "LintDeskModel" "LintDeskModel" "given" "I") ∈ xWs := xWs_of (lw_T (i := 1220) rfl) rfl
set_option maxRecDepth 100000 in
theorem xw1222 : (Jvm.Cond.lays "LintDeskModel" "LintDeskModel" "at" "I") ∈ xWs := xWs_of (lw_T (i := 1222) rfl) rfl
set_option maxRecDepth 100000 in
theorem xw1224 : (Jvm.Cond.lays "LintDeskModel" "LintDeskModel" "top" "I") ∈ xWs := xWs_of (lw_T (i := 1224) rfl) rfl
set_option maxRecDepth 100000 in
theorem xw1226 : (Jvm.Cond.lays "LintDeskModel" "LintDeskModel" "tokens" "I") ∈ xWs := xWs_of (lw_T (i := 1226) rfl) rfl
set_option maxRecDepth 100000 in
theorem xw1228 : (Jvm.Cond.laysFinal "LintDeskModel" "LintDeskModel" "draft" "[I") ∈ xWs := xWs_of (lw_T (i := 1228) rfl) rfl
set_option maxRecDepth 100000 in
theorem xw1230 : (Jvm.Cond.laysFinal "LintDeskModel" "LintDeskModel" "text" "[I") ∈ xWs := xWs_of (lw_T (i := 1230) rfl) rfl
set_option maxRecDepth 100000 in
theorem xw1232 : (Jvm.Cond.laysFinal "LintDeskModel" "LintDeskModel" "old" "[I") ∈ xWs := xWs_of (lw_T (i := 1232) rfl) rfl
set_option maxRecDepth 100000 in
theorem xw1234 : (Jvm.Cond.laysFinal "LintDeskModel" "LintDeskModel" "next" "[I") ∈ xWs := xWs_of (lw_T (i := 1234) rfl) rfl
set_option maxRecDepth 100000 in
theorem xw1236 : (Jvm.Cond.laysFinal "LintDeskModel" "LintDeskModel" "names" "[I") ∈ xWs := xWs_of (lw_T (i := 1236) rfl) rfl
set_option maxRecDepth 100000 in
theorem xw1238 : (Jvm.Cond.laysFinal "LintDeskModel" "LintDeskModel" "nameSizes" "[I") ∈ xWs := xWs_of (lw_T (i := 1238) rfl) rfl
set_option maxRecDepth 100000 in
theorem xw1240 : (Jvm.Cond.laysFinal "LintDeskModel" "LintDeskModel" "off" "[Z") ∈ xWs := xWs_of (lw_T (i := 1240) rfl) rfl
set_option maxRecDepth 100000 in
theorem xw1242 : (Jvm.Cond.laysFinal "LintDeskModel" "LintDeskModel" "kind" "[I") ∈ xWs := xWs_of (lw_T (i := 1242) rfl) rfl
set_option maxRecDepth 100000 in
theorem xw1244 : (Jvm.Cond.laysFinal "LintDeskModel" "LintDeskModel" "from" "[I") ∈ xWs := xWs_of (lw_T (i := 1244) rfl) rfl
set_option maxRecDepth 100000 in
theorem xw1246 : (Jvm.Cond.laysFinal "LintDeskModel" "LintDeskModel" "to" "[I") ∈ xWs := xWs_of (lw_T (i := 1246) rfl) rfl
set_option maxRecDepth 100000 in
theorem xw1248 : (Jvm.Cond.laysFinal "LintDeskModel" "LintDeskModel" "item" "[I") ∈ xWs := xWs_of (lw_T (i := 1248) rfl) rfl
set_option maxRecDepth 100000 in
theorem xw1250 : (Jvm.Cond.laysFinal "LintDeskModel" "LintDeskModel" "deep" "[I") ∈ xWs := xWs_of (lw_T (i := 1250) rfl) rfl
set_option maxRecDepth 100000 in
theorem xw1252 : (Jvm.Cond.laysFinal "LintDeskModel" "LintDeskModel" "aux" "[I") ∈ xWs := xWs_of (lw_T (i := 1252) rfl) rfl
set_option maxRecDepth 100000 in
theorem xw1254 : (Jvm.Cond.laysFinal "LintDeskModel" "LintDeskModel" "more" "[I") ∈ xWs := xWs_of (lw_T (i := 1254) rfl) rfl
set_option maxRecDepth 100000 in
theorem xw1256 : (Jvm.Cond.laysFinal "LintDeskModel" "LintDeskModel" "around" "[I") ∈ xWs := xWs_of (lw_T (i := 1256) rfl) rfl
set_option maxRecDepth 100000 in
theorem xw1258 : (Jvm.Cond.laysFinal "LintDeskModel" "LintDeskModel" "back" "[I") ∈ xWs := xWs_of (lw_T (i := 1258) rfl) rfl
set_option maxRecDepth 100000 in
theorem xw1260 : (Jvm.Cond.laysFinal "LintDeskModel" "LintDeskModel" "isFn" "[Z") ∈ xWs := xWs_of (lw_T (i := 1260) rfl) rfl
set_option maxRecDepth 100000 in
theorem xw1262 : (Jvm.Cond.lays "LintDeskModel" "LintDeskModel" "scopes" "I") ∈ xWs := xWs_of (lw_T (i := 1262) rfl) rfl
set_option maxRecDepth 100000 in
theorem xw1264 : (Jvm.Cond.lays "LintDeskModel" "LintDeskModel" "scope" "I") ∈ xWs := xWs_of (lw_T (i := 1264) rfl) rfl
set_option maxRecDepth 100000 in
theorem xw1266 : (Jvm.Cond.lays "LintDeskModel" "LintDeskModel" "lists" "I") ∈ xWs := xWs_of (lw_T (i := 1266) rfl) rfl
set_option maxRecDepth 100000 in
theorem xw1268 : (Jvm.Cond.laysFinal "LintDeskModel" "LintDeskModel" "first" "[I") ∈ xWs := xWs_of (lw_T (i := 1268) rfl) rfl
set_option maxRecDepth 100000 in
theorem xw1270 : (Jvm.Cond.laysFinal "LintDeskModel" "LintDeskModel" "where" "[I") ∈ xWs := xWs_of (lw_T (i := 1270) rfl) rfl
set_option maxRecDepth 100000 in
theorem xw1272 : (Jvm.Cond.laysFinal "LintDeskModel" "LintDeskModel" "sort" "[I") ∈ xWs := xWs_of (lw_T (i := 1272) rfl) rfl
set_option maxRecDepth 100000 in
theorem xw1274 : (Jvm.Cond.laysFinal "LintDeskModel" "LintDeskModel" "times" "[I") ∈ xWs := xWs_of (lw_T (i := 1274) rfl) rfl
set_option maxRecDepth 100000 in
theorem xw1276 : (Jvm.Cond.laysFinal "LintDeskModel" "LintDeskModel" "reads" "[I") ∈ xWs := xWs_of (lw_T (i := 1276) rfl) rfl
set_option maxRecDepth 100000 in
theorem xw1278 : (Jvm.Cond.laysFinal "LintDeskModel" "LintDeskModel" "writes" "[I") ∈ xWs := xWs_of (lw_T (i := 1278) rfl) rfl
set_option maxRecDepth 100000 in
theorem xw1280 : (Jvm.Cond.lays "LintDeskModel" "LintDeskModel" "things" "I") ∈ xWs := xWs_of (lw_T (i := 1280) rfl) rfl
set_option maxRecDepth 100000 in
theorem xw1282 : (Jvm.Cond.laysFinal "LintDeskModel" "LintDeskModel" "useToken" "[I") ∈ xWs := xWs_of (lw_T (i := 1282) rfl) rfl
set_option maxRecDepth 100000 in
theorem xw1284 : (Jvm.Cond.laysFinal "LintDeskModel" "LintDeskModel" "useScope" "[I") ∈ xWs := xWs_of (lw_T (i := 1284) rfl) rfl
set_option maxRecDepth 100000 in
theorem xw1286 : (Jvm.Cond.laysFinal "LintDeskModel" "LintDeskModel" "useThing" "[I") ∈ xWs := xWs_of (lw_T (i := 1286) rfl) rfl
set_option maxRecDepth 100000 in
theorem xw1288 : (Jvm.Cond.laysFinal "LintDeskModel" "LintDeskModel" "useWrites" "[Z") ∈ xWs := xWs_of (lw_T (i := 1288) rfl) rfl
set_option maxRecDepth 100000 in
theorem xw1290 : (Jvm.Cond.lays "LintDeskModel" "LintDeskModel" "uses" "I") ∈ xWs := xWs_of (lw_T (i := 1290) rfl) rfl
set_option maxRecDepth 100000 in
theorem xw1292 : (Jvm.Cond.laysFinal "LintDeskModel" "LintDeskModel" "again" "[I") ∈ xWs := xWs_of (lw_T (i := 1292) rfl) rfl
set_option maxRecDepth 100000 in
theorem xw1294 : (Jvm.Cond.laysFinal "LintDeskModel" "LintDeskModel" "dead" "[I") ∈ xWs := xWs_of (lw_T (i := 1294) rfl) rfl
set_option maxRecDepth 100000 in
theorem xw1296 : (Jvm.Cond.laysFinal "LintDeskModel" "LintDeskModel" "equal" "[I") ∈ xWs := xWs_of (lw_T (i := 1296) rfl) rfl
set_option maxRecDepth 100000 in
theorem xw1298 : (Jvm.Cond.laysFinal "LintDeskModel" "LintDeskModel" "fixed" "[I") ∈ xWs := xWs_of (lw_T (i := 1298) rfl) rfl
set_option maxRecDepth 100000 in
theorem xw1300 : (Jvm.Cond.laysFinal "LintDeskModel" "LintDeskModel" "fixedThing" "[I") ∈ xWs := xWs_of (lw_T (i := 1300) rfl) rfl
set_option maxRecDepth 100000 in
theorem xw1302 : (Jvm.Cond.laysFinal "LintDeskModel" "LintDeskModel" "empty" "[I") ∈ xWs := xWs_of (lw_T (i := 1302) rfl) rfl
set_option maxRecDepth 100000 in
theorem xw1304 : (Jvm.Cond.laysFinal "LintDeskModel" "LintDeskModel" "emptyEnd" "[I") ∈ xWs := xWs_of (lw_T (i := 1304) rfl) rfl
set_option maxRecDepth 100000 in
theorem xw1306 : (Jvm.Cond.laysFinal "LintDeskModel" "LintDeskModel" "spare" "[I") ∈ xWs := xWs_of (lw_T (i := 1306) rfl) rfl
set_option maxRecDepth 100000 in
theorem xw1308 : (Jvm.Cond.laysFinal "LintDeskModel" "LintDeskModel" "excuse" "[I") ∈ xWs := xWs_of (lw_T (i := 1308) rfl) rfl
set_option maxRecDepth 100000 in
theorem xw1310 : (Jvm.Cond.laysFinal "LintDeskModel" "LintDeskModel" "excuseFrom" "[I") ∈ xWs := xWs_of (lw_T (i := 1310) rfl) rfl
set_option maxRecDepth 100000 in
theorem xw1312 : (Jvm.Cond.laysFinal "LintDeskModel" "LintDeskModel" "excuseTo" "[I") ∈ xWs := xWs_of (lw_T (i := 1312) rfl) rfl
set_option maxRecDepth 100000 in
theorem xw1314 : (Jvm.Cond.laysFinal "LintDeskModel" "LintDeskModel" "emptyGoes" "[Z") ∈ xWs := xWs_of (lw_T (i := 1314) rfl) rfl
set_option maxRecDepth 100000 in
theorem xw1316 : (Jvm.Cond.lays "LintDeskModel" "LintDeskModel" "agains" "I") ∈ xWs := xWs_of (lw_T (i := 1316) rfl) rfl
set_option maxRecDepth 100000 in
theorem xw1318 : (Jvm.Cond.lays "LintDeskModel" "LintDeskModel" "deads" "I") ∈ xWs := xWs_of (lw_T (i := 1318) rfl) rfl
set_option maxRecDepth 100000 in
theorem xw1320 : (Jvm.Cond.lays "LintDeskModel" "LintDeskModel" "sames" "I") ∈ xWs := xWs_of (lw_T (i := 1320) rfl) rfl
set_option maxRecDepth 100000 in
theorem xw1322 : (Jvm.Cond.lays "LintDeskModel" "LintDeskModel" "fixeds" "I") ∈ xWs := xWs_of (lw_T (i := 1322) rfl) rfl
set_option maxRecDepth 100000 in
theorem xw1324 : (Jvm.Cond.lays "LintDeskModel" "LintDeskModel" "empties" "I") ∈ xWs := xWs_of (lw_T (i := 1324) rfl) rfl
set_option maxRecDepth 100000 in
theorem xw1326 : (Jvm.Cond.lays "LintDeskModel" "LintDeskModel" "spares" "I") ∈ xWs := xWs_of (lw_T (i := 1326) rfl) rfl
set_option maxRecDepth 100000 in
theorem xw1328 : (Jvm.Cond.lays "LintDeskModel" "LintDeskModel" "excuses" "I") ∈ xWs := xWs_of (lw_T (i := 1328) rfl) rfl
set_option maxRecDepth 100000 in
theorem xw1330 : (Jvm.Cond.laysFinal "LintDeskModel" "LintDeskModel" "foundRule" "[I") ∈ xWs := xWs_of (lw_T (i := 1330) rfl) rfl
set_option maxRecDepth 100000 in
theorem xw1332 : (Jvm.Cond.laysFinal "LintDeskModel" "LintDeskModel" "foundPlace" "[I") ∈ xWs := xWs_of (lw_T (i := 1332) rfl) rfl
set_option maxRecDepth 100000 in
theorem xw1334 : (Jvm.Cond.lays "LintDeskModel" "LintDeskModel" "findings" "I") ∈ xWs := xWs_of (lw_T (i := 1334) rfl) rfl
set_option maxRecDepth 100000 in
theorem xw1336 : (Jvm.Cond.lays "LintDeskModel" "LintDeskModel" "excused" "I") ∈ xWs := xWs_of (lw_T (i := 1336) rfl) rfl
set_option maxRecDepth 100000 in
theorem xw1339 : (Jvm.Cond.methodLink "LintDeskLaw" (59 : Nat) ({ cls := "LintDeskModel", name := "thrown", desc := "()I" } : Jvm.MethodName)) ∈ xWs := xWs_of (lw_T (i := 1339) rfl) rfl
set_option maxRecDepth 100000 in
theorem xw1340 : (Jvm.Cond.instanceMethod ({ cls := "LintDeskModel", name := "thrown", desc := "()I" } : Jvm.MethodName)) ∈ xWs := xWs_of (lw_T (i := 1340) rfl) rfl
set_option maxRecDepth 100000 in
theorem xw1341 : (Jvm.Cond.selects "LintDeskModel" ({ cls := "LintDeskModel", name := "thrown", desc := "()I" } : Jvm.MethodName) ({ cls := "LintDeskModel", name := "thrown", desc := "()I" } : Jvm.MethodName)) ∈ xWs := xWs_of (lw_T (i := 1341) rfl) rfl
set_option maxRecDepth 100000 in
theorem xw1342 : (Jvm.Cond.code ({ cls := "LintDeskModel", name := "thrown", desc := "()I" } : Jvm.MethodName) prog_14_method_2_code (1 : Nat) (Option.some Jvm.ClassFile.FieldType.int)) ∈ xWs := xWs_of (lw_T (i := 1342) rfl) rfl
set_option maxRecDepth 100000 in
theorem xw1343 : (Jvm.Cond.methodLink "LintDeskLaw" (58 : Nat) ({ cls := "LintDeskModel", name := "write", desc := "(J)I" } : Jvm.MethodName)) ∈ xWs := xWs_of (lw_T (i := 1343) rfl) rfl
set_option maxRecDepth 100000 in
theorem xw1344 : (Jvm.Cond.instanceMethod ({ cls := "LintDeskModel", name := "write", desc := "(J)I" } : Jvm.MethodName)) ∈ xWs := xWs_of (lw_T (i := 1344) rfl) rfl
set_option maxRecDepth 100000 in
theorem xw1345 : (Jvm.Cond.selects "LintDeskModel" ({ cls := "LintDeskModel", name := "write", desc := "(J)I" } : Jvm.MethodName) ({ cls := "LintDeskModel", name := "write", desc := "(J)I" } : Jvm.MethodName)) ∈ xWs := xWs_of (lw_T (i := 1345) rfl) rfl
set_option maxRecDepth 100000 in
theorem xw1346 : (Jvm.Cond.code ({ cls := "LintDeskModel", name := "write", desc := "(J)I" } : Jvm.MethodName) prog_14_method_40_code (5 : Nat) (Option.some Jvm.ClassFile.FieldType.int)) ∈ xWs := xWs_of (lw_T (i := 1346) rfl) rfl
set_option maxRecDepth 100000 in
theorem xw1347 : (Jvm.Cond.methodLink "LintDeskModel" (318 : Nat) ({ cls := "LintDeskModel", name := "sizeOf", desc := "(J)I" } : Jvm.MethodName)) ∈ xWs := xWs_of (lw_T (i := 1347) rfl) rfl
set_option maxRecDepth 100000 in
theorem xw1348 : (Jvm.Cond.static ({ cls := "LintDeskModel", name := "sizeOf", desc := "(J)I" } : Jvm.MethodName)) ∈ xWs := xWs_of (lw_T (i := 1348) rfl) rfl
set_option maxRecDepth 100000 in
theorem xw1349 : (Jvm.Cond.code ({ cls := "LintDeskModel", name := "sizeOf", desc := "(J)I" } : Jvm.MethodName) prog_14_method_39_code (3 : Nat) (Option.some Jvm.ClassFile.FieldType.int)) ∈ xWs := xWs_of (lw_T (i := 1349) rfl) rfl
set_option maxRecDepth 100000 in
theorem xw1350 : (Jvm.Cond.methodLink "LintDeskModel" (314 : Nat) ({ cls := "LintDeskModel", name := "octet", desc := "(JI)I" } : Jvm.MethodName)) ∈ xWs := xWs_of (lw_T (i := 1350) rfl) rfl
set_option maxRecDepth 100000 in
theorem xw1351 : (Jvm.Cond.static ({ cls := "LintDeskModel", name := "octet", desc := "(JI)I" } : Jvm.MethodName)) ∈ xWs := xWs_of (lw_T (i := 1351) rfl) rfl
set_option maxRecDepth 100000 in
theorem xw1352 : (Jvm.Cond.code ({ cls := "LintDeskModel", name := "octet", desc := "(JI)I" } : Jvm.MethodName) prog_14_method_38_code (3 : Nat) (Option.some Jvm.ClassFile.FieldType.int)) ∈ xWs := xWs_of (lw_T (i := 1352) rfl) rfl
set_option maxRecDepth 100000 in
theorem xw1353 : (Jvm.Cond.constantLong "LintDeskModel" (312 : Nat) (255 : Int64)) ∈ xWs := xWs_of (lw_T (i := 1353) rfl) rfl
set_option maxRecDepth 100000 in
theorem xw1354 : (Jvm.Cond.methodLink "LintDeskModel" (322 : Nat) ({ cls := "LintDeskModel", name := "fails", desc := "(ZI)Z" } : Jvm.MethodName)) ∈ xWs := xWs_of (lw_T (i := 1354) rfl) rfl
set_option maxRecDepth 100000 in
theorem xw1356 : (Jvm.Cond.instanceMethod ({ cls := "LintDeskModel", name := "fails", desc := "(ZI)Z" } : Jvm.MethodName)) ∈ xWs := xWs_of (lw_T (i := 1356) rfl) rfl
set_option maxRecDepth 100000 in
theorem xw1357 : (Jvm.Cond.code ({ cls := "LintDeskModel", name := "fails", desc := "(ZI)Z" } : Jvm.MethodName) prog_14_method_4_code (3 : Nat) (Option.some Jvm.ClassFile.FieldType.boolean)) ∈ xWs := xWs_of (lw_T (i := 1357) rfl) rfl
set_option maxRecDepth 100000 in
theorem xw1358 : (Jvm.Cond.methodLink "LintDeskLaw" (65 : Nat) ({ cls := "LintDeskModel", name := "read", desc := "()I" } : Jvm.MethodName)) ∈ xWs := xWs_of (lw_T (i := 1358) rfl) rfl
set_option maxRecDepth 100000 in
theorem xw1359 : (Jvm.Cond.instanceMethod ({ cls := "LintDeskModel", name := "read", desc := "()I" } : Jvm.MethodName)) ∈ xWs := xWs_of (lw_T (i := 1359) rfl) rfl
set_option maxRecDepth 100000 in
theorem xw1360 : (Jvm.Cond.selects "LintDeskModel" ({ cls := "LintDeskModel", name := "read", desc := "()I" } : Jvm.MethodName) ({ cls := "LintDeskModel", name := "read", desc := "()I" } : Jvm.MethodName)) ∈ xWs := xWs_of (lw_T (i := 1360) rfl) rfl
set_option maxRecDepth 100000 in
theorem xw1361 : (Jvm.Cond.code ({ cls := "LintDeskModel", name := "read", desc := "()I" } : Jvm.MethodName) prog_14_method_42_code (3 : Nat) (Option.some Jvm.ClassFile.FieldType.int)) ∈ xWs := xWs_of (lw_T (i := 1361) rfl) rfl
set_option maxRecDepth 100000 in
theorem xw1362 : (Jvm.Cond.methodLink "LintDeskModel" (329 : Nat) ({ cls := "LintDeskModel", name := "becomes", desc := "([II)V" } : Jvm.MethodName)) ∈ xWs := xWs_of (lw_T (i := 1362) rfl) rfl
set_option maxRecDepth 100000 in
theorem xw1364 : (Jvm.Cond.instanceMethod ({ cls := "LintDeskModel", name := "becomes", desc := "([II)V" } : Jvm.MethodName)) ∈ xWs := xWs_of (lw_T (i := 1364) rfl) rfl
set_option maxRecDepth 100000 in
theorem xw1365 : (Jvm.Cond.code ({ cls := "LintDeskModel", name := "becomes", desc := "([II)V" } : Jvm.MethodName) prog_14_method_41_code (4 : Nat) (Option.none : Option Jvm.ClassFile.FieldType)) ∈ xWs := xWs_of (lw_T (i := 1365) rfl) rfl
set_option maxRecDepth 100000 in
theorem xw1366 : (Jvm.Cond.methodLink "LintDeskModel" (333 : Nat) ({ cls := "LintDeskModel", name := "looks", desc := "()V" } : Jvm.MethodName)) ∈ xWs := xWs_of (lw_T (i := 1366) rfl) rfl
set_option maxRecDepth 100000 in
theorem xw1368 : (Jvm.Cond.instanceMethod ({ cls := "LintDeskModel", name := "looks", desc := "()V" } : Jvm.MethodName)) ∈ xWs := xWs_of (lw_T (i := 1368) rfl) rfl
set_option maxRecDepth 100000 in
theorem xw1369 : (Jvm.Cond.code ({ cls := "LintDeskModel", name := "looks", desc := "()V" } : Jvm.MethodName) prog_14_method_37_code (4 : Nat) (Option.none : Option Jvm.ClassFile.FieldType)) ∈ xWs := xWs_of (lw_T (i := 1369) rfl) rfl
set_option maxRecDepth 100000 in
theorem xw1370 : (Jvm.Cond.methodLink "LintDeskModel" (299 : Nat) ({ cls := "LintDeskModel", name := "isGiven", desc := "(I)Z" } : Jvm.MethodName)) ∈ xWs := xWs_of (lw_T (i := 1370) rfl) rfl
set_option maxRecDepth 100000 in
theorem xw1372 : (Jvm.Cond.instanceMethod ({ cls := "LintDeskModel", name := "isGiven", desc := "(I)Z" } : Jvm.MethodName)) ∈ xWs := xWs_of (lw_T (i := 1372) rfl) rfl
set_option maxRecDepth 100000 in
theorem xw1373 : (Jvm.Cond.code ({ cls := "LintDeskModel", name := "isGiven", desc := "(I)Z" } : Jvm.MethodName) prog_14_method_33_code (6 : Nat) (Option.some Jvm.ClassFile.FieldType.boolean)) ∈ xWs := xWs_of (lw_T (i := 1373) rfl) rfl
set_option maxRecDepth 100000 in
theorem xw1374 : (Jvm.Cond.methodLink "LintDeskModel" (302 : Nat) ({ cls := "LintDeskModel", name := "finds", desc := "(ZII)V" } : Jvm.MethodName)) ∈ xWs := xWs_of (lw_T (i := 1374) rfl) rfl
set_option maxRecDepth 100000 in
theorem xw1376 : (Jvm.Cond.instanceMethod ({ cls := "LintDeskModel", name := "finds", desc := "(ZII)V" } : Jvm.MethodName)) ∈ xWs := xWs_of (lw_T (i := 1376) rfl) rfl
set_option maxRecDepth 100000 in
theorem xw1377 : (Jvm.Cond.code ({ cls := "LintDeskModel", name := "finds", desc := "(ZII)V" } : Jvm.MethodName) prog_14_method_34_code (5 : Nat) (Option.none : Option Jvm.ClassFile.FieldType)) ∈ xWs := xWs_of (lw_T (i := 1377) rfl) rfl
set_option maxRecDepth 100000 in
theorem xw1378 : (Jvm.Cond.methodLink "LintDeskModel" (306 : Nat) ({ cls := "LintDeskModel", name := "isEarly", desc := "(II)Z" } : Jvm.MethodName)) ∈ xWs := xWs_of (lw_T (i := 1378) rfl) rfl
set_option maxRecDepth 100000 in
theorem xw1380 : (Jvm.Cond.instanceMethod ({ cls := "LintDeskModel", name := "isEarly", desc := "(II)Z" } : Jvm.MethodName)) ∈ xWs := xWs_of (lw_T (i := 1380) rfl) rfl
set_option maxRecDepth 100000 in
theorem xw1381 : (Jvm.Cond.code ({ cls := "LintDeskModel", name := "isEarly", desc := "(II)Z" } : Jvm.MethodName) prog_14_method_35_code (4 : Nat) (Option.some Jvm.ClassFile.FieldType.boolean)) ∈ xWs := xWs_of (lw_T (i := 1381) rfl) rfl
set_option maxRecDepth 100000 in
theorem xw1382 : (Jvm.Cond.methodLink "LintDeskModel" (309 : Nat) ({ cls := "LintDeskModel", name := "isUnused", desc := "(I)Z" } : Jvm.MethodName)) ∈ xWs := xWs_of (lw_T (i := 1382) rfl) rfl
set_option maxRecDepth 100000 in
theorem xw1384 : (Jvm.Cond.instanceMethod ({ cls := "LintDeskModel", name := "isUnused", desc := "(I)Z" } : Jvm.MethodName)) ∈ xWs := xWs_of (lw_T (i := 1384) rfl) rfl
set_option maxRecDepth 100000 in
theorem xw1385 : (Jvm.Cond.code ({ cls := "LintDeskModel", name := "isUnused", desc := "(I)Z" } : Jvm.MethodName) prog_14_method_36_code (3 : Nat) (Option.some Jvm.ClassFile.FieldType.boolean)) ∈ xWs := xWs_of (lw_T (i := 1385) rfl) rfl
set_option maxRecDepth 100000 in
theorem xw1386 : (Jvm.Cond.methodLink "LintDeskLaw" (69 : Nat) ({ cls := "LintDeskModel", name := "wrong", desc := "()I" } : Jvm.MethodName)) ∈ xWs := xWs_of (lw_T (i := 1386) rfl) rfl
set_option maxRecDepth 100000 in
theorem xw1387 : (Jvm.Cond.instanceMethod ({ cls := "LintDeskModel", name := "wrong", desc := "()I" } : Jvm.MethodName)) ∈ xWs := xWs_of (lw_T (i := 1387) rfl) rfl
set_option maxRecDepth 100000 in
theorem xw1388 : (Jvm.Cond.selects "LintDeskModel" ({ cls := "LintDeskModel", name := "wrong", desc := "()I" } : Jvm.MethodName) ({ cls := "LintDeskModel", name := "wrong", desc := "()I" } : Jvm.MethodName)) ∈ xWs := xWs_of (lw_T (i := 1388) rfl) rfl
set_option maxRecDepth 100000 in
theorem xw1389 : (Jvm.Cond.code ({ cls := "LintDeskModel", name := "wrong", desc := "()I" } : Jvm.MethodName) prog_14_method_43_code (1 : Nat) (Option.some Jvm.ClassFile.FieldType.int)) ∈ xWs := xWs_of (lw_T (i := 1389) rfl) rfl
set_option maxRecDepth 100000 in
theorem xw1390 : (Jvm.Cond.methodLink "LintDeskLaw" (73 : Nat) ({ cls := "LintDeskModel", name := "rule", desc := "(IZ)Z" } : Jvm.MethodName)) ∈ xWs := xWs_of (lw_T (i := 1390) rfl) rfl
set_option maxRecDepth 100000 in
theorem xw1391 : (Jvm.Cond.instanceMethod ({ cls := "LintDeskModel", name := "rule", desc := "(IZ)Z" } : Jvm.MethodName)) ∈ xWs := xWs_of (lw_T (i := 1391) rfl) rfl
set_option maxRecDepth 100000 in
theorem xw1392 : (Jvm.Cond.selects "LintDeskModel" ({ cls := "LintDeskModel", name := "rule", desc := "(IZ)Z" } : Jvm.MethodName) ({ cls := "LintDeskModel", name := "rule", desc := "(IZ)Z" } : Jvm.MethodName)) ∈ xWs := xWs_of (lw_T (i := 1392) rfl) rfl
set_option maxRecDepth 100000 in
theorem xw1393 : (Jvm.Cond.code ({ cls := "LintDeskModel", name := "rule", desc := "(IZ)Z" } : Jvm.MethodName) prog_14_method_44_code (4 : Nat) (Option.some Jvm.ClassFile.FieldType.boolean)) ∈ xWs := xWs_of (lw_T (i := 1393) rfl) rfl
set_option maxRecDepth 100000 in
theorem xw1394 : (Jvm.Cond.methodLink "LintDeskLaw" (76 : Nat) ({ cls := "LintDeskModel", name := "give", desc := "(J)I" } : Jvm.MethodName)) ∈ xWs := xWs_of (lw_T (i := 1394) rfl) rfl
set_option maxRecDepth 100000 in
theorem xw1395 : (Jvm.Cond.instanceMethod ({ cls := "LintDeskModel", name := "give", desc := "(J)I" } : Jvm.MethodName)) ∈ xWs := xWs_of (lw_T (i := 1395) rfl) rfl
set_option maxRecDepth 100000 in
theorem xw1396 : (Jvm.Cond.selects "LintDeskModel" ({ cls := "LintDeskModel", name := "give", desc := "(J)I" } : Jvm.MethodName) ({ cls := "LintDeskModel", name := "give", desc := "(J)I" } : Jvm.MethodName)) ∈ xWs := xWs_of (lw_T (i := 1396) rfl) rfl
set_option maxRecDepth 100000 in
theorem xw1397 : (Jvm.Cond.code ({ cls := "LintDeskModel", name := "give", desc := "(J)I" } : Jvm.MethodName) prog_14_method_45_code (9 : Nat) (Option.some Jvm.ClassFile.FieldType.int)) ∈ xWs := xWs_of (lw_T (i := 1397) rfl) rfl
set_option maxRecDepth 100000 in
theorem xw1398 : (Jvm.Cond.methodLink "LintDeskLaw" (80 : Nat) ({ cls := "LintDeskModel", name := "found", desc := "(I)I" } : Jvm.MethodName)) ∈ xWs := xWs_of (lw_T (i := 1398) rfl) rfl
set_option maxRecDepth 100000 in
theorem xw1399 : (Jvm.Cond.instanceMethod ({ cls := "LintDeskModel", name := "found", desc := "(I)I" } : Jvm.MethodName)) ∈ xWs := xWs_of (lw_T (i := 1399) rfl) rfl
set_option maxRecDepth 100000 in
theorem xw1400 : (Jvm.Cond.selects "LintDeskModel" ({ cls := "LintDeskModel", name := "found", desc := "(I)I" } : Jvm.MethodName) ({ cls := "LintDeskModel", name := "found", desc := "(I)I" } : Jvm.MethodName)) ∈ xWs := xWs_of (lw_T (i := 1400) rfl) rfl
set_option maxRecDepth 100000 in
theorem xw1401 : (Jvm.Cond.code ({ cls := "LintDeskModel", name := "found", desc := "(I)I" } : Jvm.MethodName) prog_14_method_46_code (2 : Nat) (Option.some Jvm.ClassFile.FieldType.int)) ∈ xWs := xWs_of (lw_T (i := 1401) rfl) rfl
set_option maxRecDepth 100000 in
theorem xw1402 : (Jvm.Cond.methodLink "LintDeskLaw" (83 : Nat) ({ cls := "LintDeskModel", name := "place", desc := "(I)I" } : Jvm.MethodName)) ∈ xWs := xWs_of (lw_T (i := 1402) rfl) rfl
set_option maxRecDepth 100000 in
theorem xw1403 : (Jvm.Cond.instanceMethod ({ cls := "LintDeskModel", name := "place", desc := "(I)I" } : Jvm.MethodName)) ∈ xWs := xWs_of (lw_T (i := 1403) rfl) rfl
set_option maxRecDepth 100000 in
theorem xw1404 : (Jvm.Cond.selects "LintDeskModel" ({ cls := "LintDeskModel", name := "place", desc := "(I)I" } : Jvm.MethodName) ({ cls := "LintDeskModel", name := "place", desc := "(I)I" } : Jvm.MethodName)) ∈ xWs := xWs_of (lw_T (i := 1404) rfl) rfl
set_option maxRecDepth 100000 in
theorem xw1405 : (Jvm.Cond.code ({ cls := "LintDeskModel", name := "place", desc := "(I)I" } : Jvm.MethodName) prog_14_method_47_code (2 : Nat) (Option.some Jvm.ClassFile.FieldType.int)) ∈ xWs := xWs_of (lw_T (i := 1405) rfl) rfl
set_option maxRecDepth 100000 in
theorem xw1406 : (Jvm.Cond.methodLink "LintDeskLaw" (87 : Nat) ({ cls := "LintDeskModel", name := "mend", desc := "()I" } : Jvm.MethodName)) ∈ xWs := xWs_of (lw_T (i := 1406) rfl) rfl
set_option maxRecDepth 100000 in
theorem xw1407 : (Jvm.Cond.instanceMethod ({ cls := "LintDeskModel", name := "mend", desc := "()I" } : Jvm.MethodName)) ∈ xWs := xWs_of (lw_T (i := 1407) rfl) rfl
set_option maxRecDepth 100000 in
theorem xw1408 : (Jvm.Cond.selects "LintDeskModel" ({ cls := "LintDeskModel", name := "mend", desc := "()I" } : Jvm.MethodName) ({ cls := "LintDeskModel", name := "mend", desc := "()I" } : Jvm.MethodName)) ∈ xWs := xWs_of (lw_T (i := 1408) rfl) rfl
set_option maxRecDepth 100000 in
theorem xw1409 : (Jvm.Cond.code ({ cls := "LintDeskModel", name := "mend", desc := "()I" } : Jvm.MethodName) prog_14_method_51_code (5 : Nat) (Option.some Jvm.ClassFile.FieldType.int)) ∈ xWs := xWs_of (lw_T (i := 1409) rfl) rfl
set_option maxRecDepth 100000 in
theorem xw1410 : (Jvm.Cond.methodLink "LintDeskModel" (339 : Nat) ({ cls := "LintDeskModel", name := "goes", desc := "(I)Z" } : Jvm.MethodName)) ∈ xWs := xWs_of (lw_T (i := 1410) rfl) rfl
set_option maxRecDepth 100000 in
theorem xw1412 : (Jvm.Cond.instanceMethod ({ cls := "LintDeskModel", name := "goes", desc := "(I)Z" } : Jvm.MethodName)) ∈ xWs := xWs_of (lw_T (i := 1412) rfl) rfl
set_option maxRecDepth 100000 in
theorem xw1413 : (Jvm.Cond.code ({ cls := "LintDeskModel", name := "goes", desc := "(I)Z" } : Jvm.MethodName) prog_14_method_49_code (2 : Nat) (Option.some Jvm.ClassFile.FieldType.boolean)) ∈ xWs := xWs_of (lw_T (i := 1413) rfl) rfl
set_option maxRecDepth 100000 in
theorem xw1414 : (Jvm.Cond.methodLink "LintDeskModel" (336 : Nat) ({ cls := "LintDeskModel", name := "emptyAt", desc := "(I)I" } : Jvm.MethodName)) ∈ xWs := xWs_of (lw_T (i := 1414) rfl) rfl
set_option maxRecDepth 100000 in
theorem xw1416 : (Jvm.Cond.instanceMethod ({ cls := "LintDeskModel", name := "emptyAt", desc := "(I)I" } : Jvm.MethodName)) ∈ xWs := xWs_of (lw_T (i := 1416) rfl) rfl
set_option maxRecDepth 100000 in
theorem xw1417 : (Jvm.Cond.code ({ cls := "LintDeskModel", name := "emptyAt", desc := "(I)I" } : Jvm.MethodName) prog_14_method_48_code (3 : Nat) (Option.some Jvm.ClassFile.FieldType.int)) ∈ xWs := xWs_of (lw_T (i := 1417) rfl) rfl
set_option maxRecDepth 100000 in
theorem xw1418 : (Jvm.Cond.methodLink "LintDeskModel" (345 : Nat) ({ cls := "LintDeskModel", name := "mended", desc := "()I" } : Jvm.MethodName)) ∈ xWs := xWs_of (lw_T (i := 1418) rfl) rfl
set_option maxRecDepth 100000 in
theorem xw1420 : (Jvm.Cond.instanceMethod ({ cls := "LintDeskModel", name := "mended", desc := "()I" } : Jvm.MethodName)) ∈ xWs := xWs_of (lw_T (i := 1420) rfl) rfl
set_option maxRecDepth 100000 in
theorem xw1421 : (Jvm.Cond.code ({ cls := "LintDeskModel", name := "mended", desc := "()I" } : Jvm.MethodName) prog_14_method_50_code (5 : Nat) (Option.some Jvm.ClassFile.FieldType.int)) ∈ xWs := xWs_of (lw_T (i := 1421) rfl) rfl
set_option maxRecDepth 100000 in
theorem xw1422 : (Jvm.Cond.methodLink "LintDeskLaw" (90 : Nat) ({ cls := "LintDeskModel", name := "letter", desc := "(I)I" } : Jvm.MethodName)) ∈ xWs := xWs_of (lw_T (i := 1422) rfl) rfl
set_option maxRecDepth 100000 in
theorem xw1423 : (Jvm.Cond.instanceMethod ({ cls := "LintDeskModel", name := "letter", desc := "(I)I" } : Jvm.MethodName)) ∈ xWs := xWs_of (lw_T (i := 1423) rfl) rfl
set_option maxRecDepth 100000 in
theorem xw1424 : (Jvm.Cond.selects "LintDeskModel" ({ cls := "LintDeskModel", name := "letter", desc := "(I)I" } : Jvm.MethodName) ({ cls := "LintDeskModel", name := "letter", desc := "(I)I" } : Jvm.MethodName)) ∈ xWs := xWs_of (lw_T (i := 1424) rfl) rfl
set_option maxRecDepth 100000 in
theorem xw1425 : (Jvm.Cond.code ({ cls := "LintDeskModel", name := "letter", desc := "(I)I" } : Jvm.MethodName) prog_14_method_52_code (2 : Nat) (Option.some Jvm.ClassFile.FieldType.int)) ∈ xWs := xWs_of (lw_T (i := 1425) rfl) rfl
set_option maxRecDepth 100000 in
theorem xw1426 : (Jvm.Cond.methodLink "LintDeskLaw" (94 : Nat) ({ cls := "LintDeskModel", name := "declared", desc := "(II)I" } : Jvm.MethodName)) ∈ xWs := xWs_of (lw_T (i := 1426) rfl) rfl
set_option maxRecDepth 100000 in
theorem xw1427 : (Jvm.Cond.instanceMethod ({ cls := "LintDeskModel", name := "declared", desc := "(II)I" } : Jvm.MethodName)) ∈ xWs := xWs_of (lw_T (i := 1427) rfl) rfl
set_option maxRecDepth 100000 in
theorem xw1428 : (Jvm.Cond.selects "LintDeskModel" ({ cls := "LintDeskModel", name := "declared", desc := "(II)I" } : Jvm.MethodName) ({ cls := "LintDeskModel", name := "declared", desc := "(II)I" } : Jvm.MethodName)) ∈ xWs := xWs_of (lw_T (i := 1428) rfl) rfl
set_option maxRecDepth 100000 in
theorem xw1429 : (Jvm.Cond.code ({ cls := "LintDeskModel", name := "declared", desc := "(II)I" } : Jvm.MethodName) prog_14_method_53_code (5 : Nat) (Option.some Jvm.ClassFile.FieldType.int)) ∈ xWs := xWs_of (lw_T (i := 1429) rfl) rfl
set_option maxRecDepth 100000 in
theorem xw1430 : (Jvm.Cond.methodLink "LintDeskLaw" (97 : Nat) ({ cls := "LintDeskModel", name := "count", desc := "(I)I" } : Jvm.MethodName)) ∈ xWs := xWs_of (lw_T (i := 1430) rfl) rfl
set_option maxRecDepth 100000 in
theorem xw1431 : (Jvm.Cond.instanceMethod ({ cls := "LintDeskModel", name := "count", desc := "(I)I" } : Jvm.MethodName)) ∈ xWs := xWs_of (lw_T (i := 1431) rfl) rfl
set_option maxRecDepth 100000 in
theorem xw1432 : (Jvm.Cond.selects "LintDeskModel" ({ cls := "LintDeskModel", name := "count", desc := "(I)I" } : Jvm.MethodName) ({ cls := "LintDeskModel", name := "count", desc := "(I)I" } : Jvm.MethodName)) ∈ xWs := xWs_of (lw_T (i := 1432) rfl) rfl
set_option maxRecDepth 100000 in
theorem xw1433 : (Jvm.Cond.code ({ cls := "LintDeskModel", name := "count", desc := "(I)I" } : Jvm.MethodName) prog_14_method_54_code (4 : Nat) (Option.some Jvm.ClassFile.FieldType.int)) ∈ xWs := xWs_of (lw_T (i := 1433) rfl) rfl
set_option maxRecDepth 100000 in
theorem xw1434 : (Jvm.Cond.constantLong "LintDeskLaw" (51 : Nat) (4294967295 : Int64)) ∈ xWs := xWs_of (lw_T (i := 1434) rfl) rfl
set_option maxRecDepth 100000 in
theorem xw1435 : (Jvm.Cond.sameMethod "java/lang/Throwable" "java/lang/Throwable" "fillInStackTrace" "(I)Ljava/lang/Throwable;") ∈ xWs := xWs_of (lw_T (i := 1435) rfl) rfl
set_option maxRecDepth 100000 in
theorem xw1440 : (Jvm.Cond.fieldLink "java/lang/String" (9 : Nat) "java/lang/String" "value" "[B") ∈ xWs := xWs_of (lw_T (i := 1440) rfl) rfl
set_option maxRecDepth 100000 in
theorem xw1441 : (Jvm.Cond.fieldLink "java/lang/String" (15 : Nat) "java/lang/String" "coder" "B") ∈ xWs := xWs_of (lw_T (i := 1441) rfl) rfl
set_option maxRecDepth 100000 in
theorem xw1442 : (Jvm.Cond.fieldLink "java/lang/Enum" (7 : Nat) "java/lang/Enum" "ordinal" "I") ∈ xWs := xWs_of (lw_T (i := 1442) rfl) rfl
