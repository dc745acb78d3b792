/-! what holds of the tables and of the statics all through a run (printed by gen/mkfacts.py) -/
def xNw : List Cond := [(Jvm.Cond.methodLinkNest "LintDesk" (11 : Nat) ({ cls := "LintDesk$Letters", name := "<init>", desc := "()V" } : Jvm.MethodName) "LintDesk"), (Jvm.Cond.fieldLinkNest "LintDesk" (59 : Nat) "LintDesk$Letters" "size" "I" "LintDesk"), (Jvm.Cond.fieldLinkNest "LintDesk$Tokens" (53 : Nat) "LintDesk$Letters" "size" "I" "LintDesk"), (Jvm.Cond.methodLinkNest "LintDesk" (18 : Nat) ({ cls := "LintDesk$Settings", name := "<init>", desc := "()V" } : Jvm.MethodName) "LintDesk"), (Jvm.Cond.fieldLinkNest "LintDesk" (132 : Nat) "LintDesk$Settings" "givenSize" "I" "LintDesk"), (Jvm.Cond.fieldLinkNest "LintDesk$Settings" (54 : Nat) "LintDesk$Tokens" "size" "I" "LintDesk"), (Jvm.Cond.fieldLinkNest "LintDesk" (213 : Nat) "LintDesk$Tokens" "size" "I" "LintDesk"), (Jvm.Cond.methodLinkNest "LintDesk" (232 : Nat) ({ cls := "LintDesk$Scopes", name := "<init>", desc := "()V" } : Jvm.MethodName) "LintDesk"), (Jvm.Cond.fieldLinkNest "LintDesk" (214 : Nat) "LintDesk$Scopes" "size" "I" "LintDesk"), (Jvm.Cond.methodLinkNest "LintDesk" (233 : Nat) ({ cls := "LintDesk$Things", name := "<init>", desc := "()V" } : Jvm.MethodName) "LintDesk"), (Jvm.Cond.fieldLinkNest "LintDesk$Binder" (107 : Nat) "LintDesk$Things" "names" "[I" "LintDesk"), (Jvm.Cond.fieldLinkNest "LintDesk" (184 : Nat) "LintDesk$Things" "names" "[I" "LintDesk"), (Jvm.Cond.fieldLinkNest "LintDesk$Binder" (131 : Nat) "LintDesk$Things" "words" "[I" "LintDesk"), (Jvm.Cond.fieldLinkNest "LintDesk$Binder" (68 : Nat) "LintDesk$Things" "kinds" "[I" "LintDesk"), (Jvm.Cond.fieldLinkNest "LintDesk" (188 : Nat) "LintDesk$Things" "kinds" "[I" "LintDesk"), (Jvm.Cond.fieldLinkNest "LintDesk$Binder" (113 : Nat) "LintDesk$Things" "scopes" "[I" "LintDesk"), (Jvm.Cond.fieldLinkNest "LintDesk" (204 : Nat) "LintDesk$Things" "scopes" "[I" "LintDesk"), (Jvm.Cond.fieldLinkNest "LintDesk$Binder" (92 : Nat) "LintDesk$Things" "reads" "[I" "LintDesk"), (Jvm.Cond.fieldLinkNest "LintDesk" (191 : Nat) "LintDesk$Things" "reads" "[I" "LintDesk"), (Jvm.Cond.fieldLinkNest "LintDesk$Binder" (76 : Nat) "LintDesk$Things" "writes" "[I" "LintDesk"), (Jvm.Cond.fieldLinkNest "LintDesk" (194 : Nat) "LintDesk$Things" "writes" "[I" "LintDesk"), (Jvm.Cond.fieldLinkNest "LintDesk$Binder" (65 : Nat) "LintDesk$Things" "times" "[I" "LintDesk"), (Jvm.Cond.fieldLinkNest "LintDesk" (197 : Nat) "LintDesk$Things" "times" "[I" "LintDesk"), (Jvm.Cond.fieldLinkNest "LintDesk$Binder" (79 : Nat) "LintDesk$Things" "valued" "[Z" "LintDesk"), (Jvm.Cond.fieldLinkNest "LintDesk$Binder" (60 : Nat) "LintDesk$Things" "size" "I" "LintDesk"), (Jvm.Cond.fieldLinkNest "LintDesk" (179 : Nat) "LintDesk$Things" "size" "I" "LintDesk"), (Jvm.Cond.methodLinkNest "LintDesk" (236 : Nat) ({ cls := "LintDesk$Marks", name := "<init>", desc := "()V" } : Jvm.MethodName) "LintDesk"), (Jvm.Cond.fieldLinkNest "LintDesk" (219 : Nat) "LintDesk$Binder" "freeUses" "I" "LintDesk"), (Jvm.Cond.fieldLinkNest "LintDesk" (75 : Nat) "LintDesk$Reading" "letters" "LLintDesk$Letters;" "LintDesk"), (Jvm.Cond.fieldLinkNest "LintDesk$Settings" (34 : Nat) "LintDesk$Reading" "tokens" "LLintDesk$Tokens;" "LintDesk"), (Jvm.Cond.fieldLinkNest "LintDesk" (147 : Nat) "LintDesk$Reading" "tokens" "LLintDesk$Tokens;" "LintDesk"), (Jvm.Cond.fieldLinkNest "LintDesk" (200 : Nat) "LintDesk$Reading" "scopes" "LLintDesk$Scopes;" "LintDesk"), (Jvm.Cond.fieldLinkNest "LintDesk" (175 : Nat) "LintDesk$Reading" "things" "LLintDesk$Things;" "LintDesk"), (Jvm.Cond.fieldLinkNest "LintDesk$Settings" (22 : Nat) "LintDesk$Reading" "marks" "LLintDesk$Marks;" "LintDesk"), (Jvm.Cond.fieldLinkNest "LintDesk" (215 : Nat) "LintDesk$Reading" "binder" "LLintDesk$Binder;" "LintDesk"), (Jvm.Cond.methodLinkNest "LintDesk$Letters" (36 : Nat) ({ cls := "LintDesk", name := "isBlank", desc := "(I)Z" } : Jvm.MethodName) "LintDesk"), (Jvm.Cond.methodLinkNest "LintDesk$Tokens" (69 : Nat) ({ cls := "LintDesk", name := "isSmall", desc := "(I)Z" } : Jvm.MethodName) "LintDesk"), (Jvm.Cond.methodLinkNest "LintDesk$Letters" (40 : Nat) ({ cls := "LintDesk", name := "isSmall", desc := "(I)Z" } : Jvm.MethodName) "LintDesk"), (Jvm.Cond.methodLinkNest "LintDesk$Letters" (43 : Nat) ({ cls := "LintDesk", name := "isDigit", desc := "(I)Z" } : Jvm.MethodName) "LintDesk"), (Jvm.Cond.methodLinkNest "LintDesk$Tokens" (79 : Nat) ({ cls := "LintDesk", name := "keywordOf", desc := "(J)LLintDesk$Token;" } : Jvm.MethodName) "LintDesk"), (Jvm.Cond.methodLinkNest "LintDesk$Tokens" (86 : Nat) ({ cls := "LintDesk", name := "isDigit", desc := "(I)Z" } : Jvm.MethodName) "LintDesk"), (Jvm.Cond.fieldLinkNest "LintDesk$Tokens" (115 : Nat) "LintDesk" "TOKENS" "[LLintDesk$Token;" "LintDesk"), (Jvm.Cond.fieldLinkNest "LintDesk" (289 : Nat) "LintDesk$Token" "keyword" "Z" "LintDesk"), (Jvm.Cond.fieldLinkNest "LintDesk" (293 : Nat) "LintDesk$Token" "octets" "J" "LintDesk"), (Jvm.Cond.fieldLinkNest "LintDesk$Tokens" (118 : Nat) "LintDesk$Token" "sign" "Z" "LintDesk"), (Jvm.Cond.fieldLinkNest "LintDesk$Tokens" (105 : Nat) "LintDesk$Token" "text" "Ljava/lang/String;" "LintDesk")]
theorem xn36 : (Jvm.Cond.methodLinkNest "LintDesk" (11 : Nat) ({ cls := "LintDesk$Letters", name := "<init>", desc := "()V" } : Jvm.MethodName) "LintDesk") ∈ xNw := List.mem_of_getElem? (i := 0) rfl
theorem xn42 : (Jvm.Cond.fieldLinkNest "LintDesk" (59 : Nat) "LintDesk$Letters" "size" "I" "LintDesk") ∈ xNw := List.mem_of_getElem? (i := 1) rfl
theorem xn43 : (Jvm.Cond.fieldLinkNest "LintDesk$Tokens" (53 : Nat) "LintDesk$Letters" "size" "I" "LintDesk") ∈ xNw := List.mem_of_getElem? (i := 2) rfl
theorem xn52 : (Jvm.Cond.methodLinkNest "LintDesk" (18 : Nat) ({ cls := "LintDesk$Settings", name := "<init>", desc := "()V" } : Jvm.MethodName) "LintDesk") ∈ xNw := List.mem_of_getElem? (i := 3) rfl
theorem xn58 : (Jvm.Cond.fieldLinkNest "LintDesk" (132 : Nat) "LintDesk$Settings" "givenSize" "I" "LintDesk") ∈ xNw := List.mem_of_getElem? (i := 4) rfl
theorem xn86 : (Jvm.Cond.fieldLinkNest "LintDesk$Settings" (54 : Nat) "LintDesk$Tokens" "size" "I" "LintDesk") ∈ xNw := List.mem_of_getElem? (i := 5) rfl
theorem xn87 : (Jvm.Cond.fieldLinkNest "LintDesk" (213 : Nat) "LintDesk$Tokens" "size" "I" "LintDesk") ∈ xNw := List.mem_of_getElem? (i := 6) rfl
theorem xn106 : (Jvm.Cond.methodLinkNest "LintDesk" (232 : Nat) ({ cls := "LintDesk$Scopes", name := "<init>", desc := "()V" } : Jvm.MethodName) "LintDesk") ∈ xNw := List.mem_of_getElem? (i := 7) rfl
theorem xn114 : (Jvm.Cond.fieldLinkNest "LintDesk" (214 : Nat) "LintDesk$Scopes" "size" "I" "LintDesk") ∈ xNw := List.mem_of_getElem? (i := 8) rfl
theorem xn126 : (Jvm.Cond.methodLinkNest "LintDesk" (233 : Nat) ({ cls := "LintDesk$Things", name := "<init>", desc := "()V" } : Jvm.MethodName) "LintDesk") ∈ xNw := List.mem_of_getElem? (i := 9) rfl
theorem xn131 : (Jvm.Cond.fieldLinkNest "LintDesk$Binder" (107 : Nat) "LintDesk$Things" "names" "[I" "LintDesk") ∈ xNw := List.mem_of_getElem? (i := 10) rfl
theorem xn132 : (Jvm.Cond.fieldLinkNest "LintDesk" (184 : Nat) "LintDesk$Things" "names" "[I" "LintDesk") ∈ xNw := List.mem_of_getElem? (i := 11) rfl
theorem xn134 : (Jvm.Cond.fieldLinkNest "LintDesk$Binder" (131 : Nat) "LintDesk$Things" "words" "[I" "LintDesk") ∈ xNw := List.mem_of_getElem? (i := 12) rfl
theorem xn136 : (Jvm.Cond.fieldLinkNest "LintDesk$Binder" (68 : Nat) "LintDesk$Things" "kinds" "[I" "LintDesk") ∈ xNw := List.mem_of_getElem? (i := 13) rfl
theorem xn137 : (Jvm.Cond.fieldLinkNest "LintDesk" (188 : Nat) "LintDesk$Things" "kinds" "[I" "LintDesk") ∈ xNw := List.mem_of_getElem? (i := 14) rfl
theorem xn139 : (Jvm.Cond.fieldLinkNest "LintDesk$Binder" (113 : Nat) "LintDesk$Things" "scopes" "[I" "LintDesk") ∈ xNw := List.mem_of_getElem? (i := 15) rfl
theorem xn140 : (Jvm.Cond.fieldLinkNest "LintDesk" (204 : Nat) "LintDesk$Things" "scopes" "[I" "LintDesk") ∈ xNw := List.mem_of_getElem? (i := 16) rfl
theorem xn142 : (Jvm.Cond.fieldLinkNest "LintDesk$Binder" (92 : Nat) "LintDesk$Things" "reads" "[I" "LintDesk") ∈ xNw := List.mem_of_getElem? (i := 17) rfl
theorem xn143 : (Jvm.Cond.fieldLinkNest "LintDesk" (191 : Nat) "LintDesk$Things" "reads" "[I" "LintDesk") ∈ xNw := List.mem_of_getElem? (i := 18) rfl
theorem xn145 : (Jvm.Cond.fieldLinkNest "LintDesk$Binder" (76 : Nat) "LintDesk$Things" "writes" "[I" "LintDesk") ∈ xNw := List.mem_of_getElem? (i := 19) rfl
theorem xn146 : (Jvm.Cond.fieldLinkNest "LintDesk" (194 : Nat) "LintDesk$Things" "writes" "[I" "LintDesk") ∈ xNw := List.mem_of_getElem? (i := 20) rfl
theorem xn148 : (Jvm.Cond.fieldLinkNest "LintDesk$Binder" (65 : Nat) "LintDesk$Things" "times" "[I" "LintDesk") ∈ xNw := List.mem_of_getElem? (i := 21) rfl
theorem xn149 : (Jvm.Cond.fieldLinkNest "LintDesk" (197 : Nat) "LintDesk$Things" "times" "[I" "LintDesk") ∈ xNw := List.mem_of_getElem? (i := 22) rfl
theorem xn151 : (Jvm.Cond.fieldLinkNest "LintDesk$Binder" (79 : Nat) "LintDesk$Things" "valued" "[Z" "LintDesk") ∈ xNw := List.mem_of_getElem? (i := 23) rfl
theorem xn153 : (Jvm.Cond.fieldLinkNest "LintDesk$Binder" (60 : Nat) "LintDesk$Things" "size" "I" "LintDesk") ∈ xNw := List.mem_of_getElem? (i := 24) rfl
theorem xn154 : (Jvm.Cond.fieldLinkNest "LintDesk" (179 : Nat) "LintDesk$Things" "size" "I" "LintDesk") ∈ xNw := List.mem_of_getElem? (i := 25) rfl
theorem xn177 : (Jvm.Cond.methodLinkNest "LintDesk" (236 : Nat) ({ cls := "LintDesk$Marks", name := "<init>", desc := "()V" } : Jvm.MethodName) "LintDesk") ∈ xNw := List.mem_of_getElem? (i := 26) rfl
theorem xn206 : (Jvm.Cond.fieldLinkNest "LintDesk" (219 : Nat) "LintDesk$Binder" "freeUses" "I" "LintDesk") ∈ xNw := List.mem_of_getElem? (i := 27) rfl
theorem xn258 : (Jvm.Cond.fieldLinkNest "LintDesk" (75 : Nat) "LintDesk$Reading" "letters" "LLintDesk$Letters;" "LintDesk") ∈ xNw := List.mem_of_getElem? (i := 28) rfl
theorem xn260 : (Jvm.Cond.fieldLinkNest "LintDesk$Settings" (34 : Nat) "LintDesk$Reading" "tokens" "LLintDesk$Tokens;" "LintDesk") ∈ xNw := List.mem_of_getElem? (i := 29) rfl
theorem xn261 : (Jvm.Cond.fieldLinkNest "LintDesk" (147 : Nat) "LintDesk$Reading" "tokens" "LLintDesk$Tokens;" "LintDesk") ∈ xNw := List.mem_of_getElem? (i := 30) rfl
theorem xn263 : (Jvm.Cond.fieldLinkNest "LintDesk" (200 : Nat) "LintDesk$Reading" "scopes" "LLintDesk$Scopes;" "LintDesk") ∈ xNw := List.mem_of_getElem? (i := 31) rfl
theorem xn265 : (Jvm.Cond.fieldLinkNest "LintDesk" (175 : Nat) "LintDesk$Reading" "things" "LLintDesk$Things;" "LintDesk") ∈ xNw := List.mem_of_getElem? (i := 32) rfl
theorem xn267 : (Jvm.Cond.fieldLinkNest "LintDesk$Settings" (22 : Nat) "LintDesk$Reading" "marks" "LLintDesk$Marks;" "LintDesk") ∈ xNw := List.mem_of_getElem? (i := 33) rfl
theorem xn269 : (Jvm.Cond.fieldLinkNest "LintDesk" (215 : Nat) "LintDesk$Reading" "binder" "LLintDesk$Binder;" "LintDesk") ∈ xNw := List.mem_of_getElem? (i := 34) rfl
theorem xn302 : (Jvm.Cond.methodLinkNest "LintDesk$Letters" (36 : Nat) ({ cls := "LintDesk", name := "isBlank", desc := "(I)Z" } : Jvm.MethodName) "LintDesk") ∈ xNw := List.mem_of_getElem? (i := 35) rfl
theorem xn316 : (Jvm.Cond.methodLinkNest "LintDesk$Tokens" (69 : Nat) ({ cls := "LintDesk", name := "isSmall", desc := "(I)Z" } : Jvm.MethodName) "LintDesk") ∈ xNw := List.mem_of_getElem? (i := 36) rfl
theorem xn323 : (Jvm.Cond.methodLinkNest "LintDesk$Letters" (40 : Nat) ({ cls := "LintDesk", name := "isSmall", desc := "(I)Z" } : Jvm.MethodName) "LintDesk") ∈ xNw := List.mem_of_getElem? (i := 37) rfl
theorem xn324 : (Jvm.Cond.methodLinkNest "LintDesk$Letters" (43 : Nat) ({ cls := "LintDesk", name := "isDigit", desc := "(I)Z" } : Jvm.MethodName) "LintDesk") ∈ xNw := List.mem_of_getElem? (i := 38) rfl
theorem xn331 : (Jvm.Cond.methodLinkNest "LintDesk$Tokens" (79 : Nat) ({ cls := "LintDesk", name := "keywordOf", desc := "(J)LLintDesk$Token;" } : Jvm.MethodName) "LintDesk") ∈ xNw := List.mem_of_getElem? (i := 39) rfl
theorem xn346 : (Jvm.Cond.methodLinkNest "LintDesk$Tokens" (86 : Nat) ({ cls := "LintDesk", name := "isDigit", desc := "(I)Z" } : Jvm.MethodName) "LintDesk") ∈ xNw := List.mem_of_getElem? (i := 40) rfl
theorem xn365 : (Jvm.Cond.fieldLinkNest "LintDesk$Tokens" (115 : Nat) "LintDesk" "TOKENS" "[LLintDesk$Token;" "LintDesk") ∈ xNw := List.mem_of_getElem? (i := 41) rfl
theorem xn1436 : (Jvm.Cond.fieldLinkNest "LintDesk" (289 : Nat) "LintDesk$Token" "keyword" "Z" "LintDesk") ∈ xNw := List.mem_of_getElem? (i := 42) rfl
theorem xn1437 : (Jvm.Cond.fieldLinkNest "LintDesk" (293 : Nat) "LintDesk$Token" "octets" "J" "LintDesk") ∈ xNw := List.mem_of_getElem? (i := 43) rfl
theorem xn1438 : (Jvm.Cond.fieldLinkNest "LintDesk$Tokens" (118 : Nat) "LintDesk$Token" "sign" "Z" "LintDesk") ∈ xNw := List.mem_of_getElem? (i := 44) rfl
theorem xn1439 : (Jvm.Cond.fieldLinkNest "LintDesk$Tokens" (105 : Nat) "LintDesk$Token" "text" "Ljava/lang/String;" "LintDesk") ∈ xNw := List.mem_of_getElem? (i := 45) rfl
def xNwk : Cond → Bool
  | .fieldLinkNest .. => true
  | .methodLinkNest .. => true
  | _ => false
theorem xNw_k : ∀ w ∈ xNw, xNwk w = true := fun w h => List.all_eq_true.mp (show xNw.all xNwk = true by decide +kernel) w h
theorem xNw_warm {w : Cond} (h : xNwk w = true) {s U : State} (hW : s.WarmedH U.vm) (hZ : va_Nw w s) : va_Nw w U := by
  cases w <;> first | exact va_Nw.warmF hW hZ | exact va_Nw.warmM hW hZ | (simp [xNwk] at h)
theorem xNw_same {w : Cond} (h : xNwk w = true) {s U : State} (hv : s.vm = U.vm) (hZ : va_Nw w s) : va_Nw w U := by
  cases w <;> first | exact va_Nw.same rfl hv hZ | (simp [xNwk] at h)
def xTokN : List String := ["LET", "CONST", "VAR", "FN", "IF", "ELSE", "WHILE", "RETURN", "SAME", "LIKE", "BECOMES", "PLUS", "MINUS", "TIMES", "LESS", "NOT", "OPEN", "CLOSE", "BEGIN", "END", "STOP", "COMMA", "AT", "NAME", "NUMBER", "TEXT", "FINISH", "BAD"]
def xTokKw : List Int32 := [1, 1, 1, 1, 1, 1, 1, 1, 0, 0, 0, 0, 0, 0, 0, 0, 0, 0, 0, 0, 0, 0, 0, 0, 0, 0, 0, 0]
def xTokSg : List Int32 := [0, 0, 0, 0, 0, 0, 0, 0, 1, 1, 1, 1, 1, 1, 1, 1, 1, 1, 1, 1, 1, 1, 1, 0, 0, 0, 0, 0]
def xTokOc : List Int64 := [7628140, 500152823651, 7496054, 28262, 26217, 1702063205, 435610544247, 121437875889522, 4013373, 15677, 61, 43, 45, 42, 60, 33, 40, 41, 123, 125, 59, 44, 64, 0, 0, 0, 0, 0]
def xSwM : List Int32 := [1, 2, 3, 4, 6, 0, 7, 8, 0, 0, 0, 0, 15, 0, 0, 14, 16, 0, 5, 0, 10, 0, 9, 13, 11, 12, 0, 0]
abbrev xH : Type := Nat → Option va_E
/-- what is fixed: the first address that is ours; the classes' ids and slots; the ids of the array classes; the addresses of the enum's constants, of their Strings (and of the Strings' bytes), of the static arrays -/
abbrev xG : Type := Nat × va_G × (Nat → ClassId) × (Nat → Nat) × (Nat → Nat) × (Nat → Nat)
abbrev gB (G : xG) : Nat := G.1
abbrev gD (G : xG) : va_G := G.2.1
abbrev gZ (G : xG) : Nat → ClassId := G.2.2.1
abbrev gE (G : xG) : Nat → Nat := G.2.2.2.1
abbrev gK (G : xG) : Nat → Nat := G.2.2.2.2.1
abbrev gT (G : xG) : Nat → Nat := G.2.2.2.2.2
def xtys (Z : Nat → ClassId) : List (ClassId × FieldType) := [(Z 0, .int), (Z 1, .char), (Z 2, .boolean), (Z 3, .long), (Z 4, .object "LintDesk$Token")]
/-- what may be written: all that is ours -/
abbrev xA (G : xG) : Nat → Prop := fun q => gB G ≤ q
def xTxt : List (List Int32) := [[108, 101, 116], [99, 111, 110, 115, 116], [118, 97, 114], [102, 110], [105, 102], [101, 108, 115, 101], [119, 104, 105, 108, 101], [114, 101, 116, 117, 114, 110], [61, 61, 61], [61, 61], [61], [43], [45], [42], [60], [33], [40], [41], [123], [125], [59], [44], [64], [], [], [], [], []]
/-- the enum's constants, the static arrays: they lie below what is ours, and stay -/
def xTk (G : xG) (k : Nat) (U : State) (H : Heap) : Prop :=
  va_Z "LintDesk$Token" (xTokN.getD k "") "LLintDesk$Token;" (.ref (gE G k)) (xA G) U H ∧ va_O "LintDesk$Token" (gE G k) (xA G) U H ∧ va_OF "java/lang/Enum" "ordinal" "I" (.int (nI k)) (gE G k) (xA G) U H ∧ va_OF "LintDesk$Token" "text" "Ljava/lang/String;" (.ref (gK G k)) (gE G k) (xA G) U H ∧ va_OF "LintDesk$Token" "keyword" "Z" (.int (xTokKw.getD k 0)) (gE G k) (xA G) U H ∧ va_OF "LintDesk$Token" "sign" "Z" (.int (xTokSg.getD k 0)) (gE G k) (xA G) U H ∧ va_OF "LintDesk$Token" "octets" "J" (.long (xTokOc.getD k 0)) (gE G k) (xA G) U H ∧ va_O "java/lang/String" (gK G k) (xA G) U H ∧ va_OF "java/lang/String" "value" "[B" (.ref (gT G (2 + k))) (gK G k) (xA G) U H ∧ va_OF "java/lang/String" "coder" "B" (.int 0) (gK G k) (xA G) U H ∧ va_T .byte (gT G (2 + k)) (xTxt.getD k []).length (fun j => .int ((xTxt.getD k []).getD j 0)) (xA G) U H
def xSt (G : xG) (U : State) (H : Heap) : Prop :=
  (∀ k, k < 28 → xTk G k U H) ∧
  va_Z "LintDesk" "TOKENS" "[LLintDesk$Token;" (.ref (gT G 0)) (xA G) U H ∧ va_T (.object "LintDesk$Token") (gT G 0) 28 (fun j => .ref (gE G j)) (xA G) U H ∧
  va_Z "LintDesk$1" "$SwitchMap$LintDesk$Token" "[I" (.ref (gT G 1)) (xA G) U H ∧ va_T .int (gT G 1) 28 (fun j => .int (xSwM.getD j 0)) (xA G) U H ∧ va_Z "java/lang/String" "COMPACT_STRINGS" "Z" (.int 1) (xA G) U H ∧ va_Zq "jdk/internal/util/Preconditions" "SIOOBE_FORMATTER" "Ljava/util/function/BiFunction;" (xA G) U H
theorem xSt.moved {G : xG} {u U : State} {H : Heap} (hvm : u.vm.Alike U.vm) (h : xSt G u H) : xSt G U H := by
  obtain ⟨h1, h2, h3, h4, h5, h6, h7⟩ := h
  refine ⟨fun k hk => ?_, h2.moved hvm, h3.moved hvm, h4.moved hvm, h5.moved hvm, h6.moved hvm, h7.moved hvm⟩
  obtain ⟨a1, a2, a3, a4, a5, a6, a7, a8, a9, a10, a11⟩ := h1 k hk
  exact ⟨a1.moved hvm, a2.moved hvm, a3.moved hvm, a4.moved hvm, a5.moved hvm, a6.moved hvm, a7.moved hvm, a8.moved hvm, a9.moved hvm, a10.moved hvm, a11.moved hvm⟩
theorem xSt.kept {G : xG} {U : State} {H H1 : Heap} (h : xSt G U H) (hq : ∀ a : Nat, a < H.size → ¬ xA G a → H1[a]? = H[a]?) : xSt G U H1 := by
  obtain ⟨h1, h2, h3, h4, h5, h6, h7⟩ := h
  refine ⟨fun k hk => ?_, h2.kept hq, h3.kept hq, h4.kept hq, h5.kept hq, h6.kept hq, h7.kept hq⟩
  obtain ⟨a1, a2, a3, a4, a5, a6, a7, a8, a9, a10, a11⟩ := h1 k hk
  exact ⟨a1.kept hq, a2.kept hq, a3.kept hq, a4.kept hq, a5.kept hq, a6.kept hq, a7.kept hq, a8.kept hq, a9.kept hq, a10.kept hq, a11.kept hq⟩
/-- what holds at every method's start -/
def xF (G : xG) (U : State) : Prop := va_K (gD G) xCl (xtys (gZ G)) U ∧ (∀ w ∈ xNw, va_Nw w U) ∧ va_AO "LintDesk$Token" U ∧ (∀ i j, i < 28 → j < 28 → gE G i = gE G j → i = j) ∧ xSt G U U.heap ∧ vk_R "LintDesk" 270 "=" (gK G 10) U ∧ vk_R "LintDesk" 272 "const" (gK G 1) U ∧ vk_R "LintDesk" 274 "" (gK G 23) U
theorem xF.step {G : xG} {s U : State} {H : Heap} {locs : List Loc} (h : xF G s) (hW : s.WarmedH U.vm) (hS : va_S (xA G) s.heap H locs) (hU : U.heap = H) : xF G U := by
  obtain ⟨h1, h2, h3, h4, h5, h6, h7, h8⟩ := h
  exact ⟨h1.moved hW.alike, fun w hw => xNw_warm (xNw_k w hw) hW (h2 w hw), h3.moved hW.alike, h4, (h5.moved hW.alike).kept (fun a ha hn => by rw [hU]; exact hS.2.1 a ha hn), h6.warm hW, h7.warm hW, h8.warm hW⟩
theorem xF.same {G : xG} {u U : State} (hv : u.vm = U.vm) (hh : U.heap = u.heap) (h : xF G u) : xF G U := by
  obtain ⟨h1, h2, h3, h4, h5, h6, h7, h8⟩ := h
  have al : u.vm.Alike U.vm := by rw [hv]; exact Vm.Alike.refl _
  exact ⟨h1.moved al, fun w hw => xNw_same (xNw_k w hw) hv (h2 w hw), h3.moved al, h4, by rw [hh]; exact h5.moved al, h6.same hv.symm, h7.same hv.symm, h8.same hv.symm⟩
