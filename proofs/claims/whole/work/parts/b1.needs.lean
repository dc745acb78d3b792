/-! the start: which premises are used, all found at once -/
def sT (k : Nat) : Term := .static "LintDesk$Token" (xTokN.getD k "") "LLintDesk$Token;"
def sSx : List Nat := [137, 143, 146, 149, 152, 155, 158, 161, 164, 167, 170, 173, 176, 179, 182, 185, 188, 191, 194, 197, 200, 203, 206, 209, 209, 209, 209, 209]
def sS (k : Nat) : Term := .string "LintDesk$Token" (sSx.getD k 0)
def sV (k : Nat) : Term := .field (sS k) "java/lang/String" "value" "[B"
def sTT : Term := .static "LintDesk" "TOKENS" "[LLintDesk$Token;"
def sTW : Term := .static "LintDesk$1" "$SwitchMap$LintDesk$Token" "[I"
def nd0 (k : Nat) : List Cond := [.exactly (sT k) "LintDesk$Token", .eq (.field (sT k) "java/lang/Enum" "ordinal" "I") (.int (nI k)), .eq (.field (sT k) "LintDesk$Token" "text" "Ljava/lang/String;") (sS k), .eq (.field (sT k) "LintDesk$Token" "keyword" "Z") (.int (xTokKw.getD k 0)), .eq (.field (sT k) "LintDesk$Token" "sign" "Z") (.int (xTokSg.getD k 0)), .eq (.field (sT k) "LintDesk$Token" "octets" "J") (.long (xTokOc.getD k 0)), .exactly (sS k) "java/lang/String", .eq (.field (sS k) "java/lang/String" "coder" "B") (.int 0), .arrayOf (sV k) .byte, .eq (.length (sV k)) (.int (nI (xTxt.getD k []).length)), .eq (.elem sTT (.int (nI k))) (sT k), .eq (.elem sTW (.int (nI k))) (.int (xSwM.getD k 0))]
def nd1 (k : Nat) : List Cond := (List.range (xTxt.getD k []).length).map (fun j => .eq (.elem (sV k) (.int (nI j))) (.int ((xTxt.getD k []).getD j 0)))
def nd2 : List Cond := [.arrayOf sTT (.object "LintDesk$Token"), .eq (.length sTT) (.int (nI 28)), .arrayOf sTW .int, .eq (.length sTW) (.int (nI 28)), .eq (.static "java/lang/String" "COMPACT_STRINGS" "Z") (.int 1), .isRef (.static "jdk/internal/util/Preconditions" "SIOOBE_FORMATTER" "Ljava/util/function/BiFunction;"), .isRef (.static Bundle.tN "UNASSIGNED_STACK" Bundle.steD), .isRef (.static Bundle.tN "SUPPRESSED_SENTINEL" Bundle.listD), .eq (.string "LintDesk" 267) (sS 10), .eq (.string "LintDesk" 269) (sS 1), .eq (.string "LintDesk" 271) (sS 23)]
def nd3 : List Cond := xApart.map (fun q => .not (.castable q.1 q.2)) ++ xMsg.map (fun q => .exactly (.string "LintDesk" q.1) "java/lang/String")
def ndW : List Cond := (List.range 28).map (fun k => .laysStatic "LintDesk$Token" (xTokN.getD k "") "LLintDesk$Token;") ++ [.laysStatic "LintDesk" "TOKENS" "[LLintDesk$Token;", .laysStatic "LintDesk$1" "$SwitchMap$LintDesk$Token" "[I", .laysStatic "java/lang/String" "COMPACT_STRINGS" "Z", .laysStatic "jdk/internal/util/Preconditions" "SIOOBE_FORMATTER" "Ljava/util/function/BiFunction;", .laysStatic Bundle.tN "UNASSIGNED_STACK" Bundle.steD, .laysStatic Bundle.tN "SUPPRESSED_SENTINEL" Bundle.listD, .initialized "LintDesk$Token", .initialized "LintDesk", .initialized "LintDesk$1", .initialized "java/lang/String", .initialized "jdk/internal/util/Preconditions", .arrayOver (.object "LintDesk$Token"), .arrayClass .int, .arrayClass .char, .arrayClass .boolean, .arrayClass .long, .stringRef "LintDesk" 267 "=", .stringRef "LintDesk" 269 "const", .stringRef "LintDesk" 271 ""] ++ xMsg.map (fun q => .stringRef "LintDesk" q.1 q.2) ++ xNw ++ xTw
def ndF : List Cond := (List.range 28).flatMap (fun k => nd0 k ++ nd1 k) ++ nd2 ++ nd3
theorem in_of_all {a b : List Cond} (h : a.all (fun w => b.contains w) = true) : ∀ w ∈ a, w ∈ b := by
  intro w hw
  have := List.all_eq_true.mp h w hw
  simpa [List.contains_iff_mem] using this
set_option maxRecDepth 100000 in
theorem ndF_ok : ∀ w ∈ ndF, w ∈ flatC (Cond.and given_1 narrow_1) := in_of_all (by decide +kernel)
set_option maxRecDepth 100000 in
theorem ndW_ok : ∀ w ∈ ndW, w ∈ lw_tbl := in_of_all (by decide +kernel)
theorem xNw_t : ∀ w ∈ xNw, w.onTables = true := fun w h => List.all_eq_true.mp (show xNw.all (fun w => w.onTables) = true by decide +kernel) w h
theorem xTw_t : ∀ w ∈ xTw, w.onTables = true := fun w h => List.all_eq_true.mp (show xTw.all (fun w => w.onTables) = true by decide +kernel) w h
