/-! classes: name, fields in order, types (printed by gen/names.py) -/
def fR_D : String := "LintDesk"
def fF_D : u_T := fun k => match k with
  | 0 => ("LintDesk", "written", "LLintDesk$Letters;", true)
  | 1 => ("LintDesk", "settings", "LLintDesk$Settings;", true)
  | 2 => ("LintDesk", "source", "LLintDesk$Reading;", false)
  | 3 => ("LintDesk", "spare", "LLintDesk$Reading;", false)
  | 4 => ("LintDesk", "wrongPlace", "I", false)
  | _ => ("LintDesk", "rounds", "I", false)
def ft_D : Nat → FieldType := fun k => match k with
  | 0 => .object "LintDesk$Letters"
  | 1 => .object "LintDesk$Settings"
  | 2 => .object "LintDesk$Reading"
  | 3 => .object "LintDesk$Reading"
  | 4 => .int
  | _ => .int
set_option maxRecDepth 100000 in
theorem fn_D : ∀ a, a < 6 → ∀ b, b < 6 → a ≠ b → (fF_D a).2.1 ≠ (fF_D b).2.1 := by decide +kernel
set_option maxRecDepth 100000 in
theorem ft_D_ok : ∀ k, k < 6 → parseFieldDescriptor (fF_D k).2.2.1 = some (ft_D k) := by decide +kernel
set_option maxRecDepth 100000 in
theorem fi_D : ∀ w ∈ u_ws fR_D fF_D 6, w ∈ xWs := by
  exact List.forall_mem_cons.mpr ⟨xw694, List.forall_mem_cons.mpr ⟨xw696, List.forall_mem_cons.mpr ⟨xw698, List.forall_mem_cons.mpr ⟨xw700, List.forall_mem_cons.mpr ⟨xw702, List.forall_mem_cons.mpr ⟨xw704, fun _ h => absurd h List.not_mem_nil⟩⟩⟩⟩⟩⟩
def fR_L : String := "LintDesk$Letters"
def fF_L : u_T := fun k => match k with
  | 0 => ("LintDesk$Letters", "row", "[C", true)
  | _ => ("LintDesk$Letters", "size", "I", false)
def ft_L : Nat → FieldType := fun k => match k with
  | 0 => .array .char
  | _ => .int
set_option maxRecDepth 100000 in
theorem fn_L : ∀ a, a < 2 → ∀ b, b < 2 → a ≠ b → (fF_L a).2.1 ≠ (fF_L b).2.1 := by decide +kernel
set_option maxRecDepth 100000 in
theorem ft_L_ok : ∀ k, k < 2 → parseFieldDescriptor (fF_L k).2.2.1 = some (ft_L k) := by decide +kernel
set_option maxRecDepth 100000 in
theorem fi_L : ∀ w ∈ u_ws fR_L fF_L 2, w ∈ xWs := by
  exact List.forall_mem_cons.mpr ⟨xw44, List.forall_mem_cons.mpr ⟨xw46, fun _ h => absurd h List.not_mem_nil⟩⟩
def fR_G : String := "LintDesk$Settings"
def fF_G : u_T := fun k => match k with
  | 0 => ("LintDesk$Settings", "given", "[J", true)
  | 1 => ("LintDesk$Settings", "givenSize", "I", false)
  | _ => ("LintDesk$Settings", "rulesOn", "I", false)
def ft_G : Nat → FieldType := fun k => match k with
  | 0 => .array .long
  | 1 => .int
  | _ => .int
set_option maxRecDepth 100000 in
theorem fn_G : ∀ a, a < 3 → ∀ b, b < 3 → a ≠ b → (fF_G a).2.1 ≠ (fF_G b).2.1 := by decide +kernel
set_option maxRecDepth 100000 in
theorem ft_G_ok : ∀ k, k < 3 → parseFieldDescriptor (fF_G k).2.2.1 = some (ft_G k) := by decide +kernel
set_option maxRecDepth 100000 in
theorem fi_G : ∀ w ∈ u_ws fR_G fF_G 3, w ∈ xWs := by
  exact List.forall_mem_cons.mpr ⟨xw60, List.forall_mem_cons.mpr ⟨xw62, List.forall_mem_cons.mpr ⟨xw64, fun _ h => absurd h List.not_mem_nil⟩⟩⟩
def fR_T : String := "LintDesk$Tokens"
def fF_T : u_T := fun k => match k with
  | 0 => ("LintDesk$Tokens", "letters", "LLintDesk$Letters;", true)
  | 1 => ("LintDesk$Tokens", "kinds", "[LLintDesk$Token;", true)
  | 2 => ("LintDesk$Tokens", "starts", "[I", true)
  | 3 => ("LintDesk$Tokens", "ends", "[I", true)
  | 4 => ("LintDesk$Tokens", "octets", "[J", true)
  | 5 => ("LintDesk$Tokens", "words", "[I", true)
  | _ => ("LintDesk$Tokens", "size", "I", false)
def ft_T : Nat → FieldType := fun k => match k with
  | 0 => .object "LintDesk$Letters"
  | 1 => .array (.object "LintDesk$Token")
  | 2 => .array .int
  | 3 => .array .int
  | 4 => .array .long
  | 5 => .array .int
  | _ => .int
set_option maxRecDepth 100000 in
theorem fn_T : ∀ a, a < 7 → ∀ b, b < 7 → a ≠ b → (fF_T a).2.1 ≠ (fF_T b).2.1 := by decide +kernel
set_option maxRecDepth 100000 in
theorem ft_T_ok : ∀ k, k < 7 → parseFieldDescriptor (fF_T k).2.2.1 = some (ft_T k) := by decide +kernel
set_option maxRecDepth 100000 in
theorem fi_T : ∀ w ∈ u_ws fR_T fF_T 7, w ∈ xWs := by
  exact List.forall_mem_cons.mpr ⟨xw88, List.forall_mem_cons.mpr ⟨xw90, List.forall_mem_cons.mpr ⟨xw92, List.forall_mem_cons.mpr ⟨xw94, List.forall_mem_cons.mpr ⟨xw96, List.forall_mem_cons.mpr ⟨xw98, List.forall_mem_cons.mpr ⟨xw100, fun _ h => absurd h List.not_mem_nil⟩⟩⟩⟩⟩⟩⟩
def fR_S : String := "LintDesk$Scopes"
def fF_S : u_T := fun k => match k with
  | 0 => ("LintDesk$Scopes", "around", "[I", true)
  | 1 => ("LintDesk$Scopes", "homes", "[I", true)
  | 2 => ("LintDesk$Scopes", "levels", "[I", true)
  | _ => ("LintDesk$Scopes", "size", "I", false)
def ft_S : Nat → FieldType := fun k => match k with
  | 0 => .array .int
  | 1 => .array .int
  | 2 => .array .int
  | _ => .int
set_option maxRecDepth 100000 in
theorem fn_S : ∀ a, a < 4 → ∀ b, b < 4 → a ≠ b → (fF_S a).2.1 ≠ (fF_S b).2.1 := by decide +kernel
set_option maxRecDepth 100000 in
theorem ft_S_ok : ∀ k, k < 4 → parseFieldDescriptor (fF_S k).2.2.1 = some (ft_S k) := by decide +kernel
set_option maxRecDepth 100000 in
theorem fi_S : ∀ w ∈ u_ws fR_S fF_S 4, w ∈ xWs := by
  exact List.forall_mem_cons.mpr ⟨xw115, List.forall_mem_cons.mpr ⟨xw117, List.forall_mem_cons.mpr ⟨xw119, List.forall_mem_cons.mpr ⟨xw121, fun _ h => absurd h List.not_mem_nil⟩⟩⟩⟩
def fR_H : String := "LintDesk$Things"
def fF_H : u_T := fun k => match k with
  | 0 => ("LintDesk$Things", "names", "[I", true)
  | 1 => ("LintDesk$Things", "words", "[I", true)
  | 2 => ("LintDesk$Things", "kinds", "[I", true)
  | 3 => ("LintDesk$Things", "scopes", "[I", true)
  | 4 => ("LintDesk$Things", "reads", "[I", true)
  | 5 => ("LintDesk$Things", "writes", "[I", true)
  | 6 => ("LintDesk$Things", "times", "[I", true)
  | 7 => ("LintDesk$Things", "valued", "[Z", true)
  | _ => ("LintDesk$Things", "size", "I", false)
def ft_H : Nat → FieldType := fun k => match k with
  | 0 => .array .int
  | 1 => .array .int
  | 2 => .array .int
  | 3 => .array .int
  | 4 => .array .int
  | 5 => .array .int
  | 6 => .array .int
  | 7 => .array .boolean
  | _ => .int
set_option maxRecDepth 100000 in
theorem fn_H : ∀ a, a < 9 → ∀ b, b < 9 → a ≠ b → (fF_H a).2.1 ≠ (fF_H b).2.1 := by decide +kernel
set_option maxRecDepth 100000 in
theorem ft_H_ok : ∀ k, k < 9 → parseFieldDescriptor (fF_H k).2.2.1 = some (ft_H k) := by decide +kernel
set_option maxRecDepth 100000 in
theorem fi_H : ∀ w ∈ u_ws fR_H fF_H 9, w ∈ xWs := by
  exact List.forall_mem_cons.mpr ⟨xw155, List.forall_mem_cons.mpr ⟨xw157, List.forall_mem_cons.mpr ⟨xw159, List.forall_mem_cons.mpr ⟨xw161, List.forall_mem_cons.mpr ⟨xw163, List.forall_mem_cons.mpr ⟨xw165, List.forall_mem_cons.mpr ⟨xw167, List.forall_mem_cons.mpr ⟨xw169, List.forall_mem_cons.mpr ⟨xw171, fun _ h => absurd h List.not_mem_nil⟩⟩⟩⟩⟩⟩⟩⟩⟩
def fR_M : String := "LintDesk$Marks"
def fF_M : u_T := fun k => match k with
  | 0 => ("LintDesk$Marks", "rules", "[I", true)
  | 1 => ("LintDesk$Marks", "excused", "[I", true)
  | _ => ("LintDesk$Marks", "loose", "[Z", true)
def ft_M : Nat → FieldType := fun k => match k with
  | 0 => .array .int
  | 1 => .array .int
  | _ => .array .boolean
set_option maxRecDepth 100000 in
theorem fn_M : ∀ a, a < 3 → ∀ b, b < 3 → a ≠ b → (fF_M a).2.1 ≠ (fF_M b).2.1 := by decide +kernel
set_option maxRecDepth 100000 in
theorem ft_M_ok : ∀ k, k < 3 → parseFieldDescriptor (fF_M k).2.2.1 = some (ft_M k) := by decide +kernel
set_option maxRecDepth 100000 in
theorem fi_M : ∀ w ∈ u_ws fR_M fF_M 3, w ∈ xWs := by
  exact List.forall_mem_cons.mpr ⟨xw184, List.forall_mem_cons.mpr ⟨xw186, List.forall_mem_cons.mpr ⟨xw188, fun _ h => absurd h List.not_mem_nil⟩⟩⟩
def fR_B : String := "LintDesk$Binder"
def fF_B : u_T := fun k => match k with
  | 0 => ("LintDesk$Binder", "tokens", "LLintDesk$Tokens;", true)
  | 1 => ("LintDesk$Binder", "scopes", "LLintDesk$Scopes;", true)
  | 2 => ("LintDesk$Binder", "things", "LLintDesk$Things;", true)
  | 3 => ("LintDesk$Binder", "marks", "LLintDesk$Marks;", true)
  | 4 => ("LintDesk$Binder", "uses", "[I", true)
  | 5 => ("LintDesk$Binder", "useScopes", "[I", true)
  | 6 => ("LintDesk$Binder", "writing", "[Z", true)
  | 7 => ("LintDesk$Binder", "size", "I", false)
  | _ => ("LintDesk$Binder", "freeUses", "I", false)
def ft_B : Nat → FieldType := fun k => match k with
  | 0 => .object "LintDesk$Tokens"
  | 1 => .object "LintDesk$Scopes"
  | 2 => .object "LintDesk$Things"
  | 3 => .object "LintDesk$Marks"
  | 4 => .array .int
  | 5 => .array .int
  | 6 => .array .boolean
  | 7 => .int
  | _ => .int
set_option maxRecDepth 100000 in
theorem fn_B : ∀ a, a < 9 → ∀ b, b < 9 → a ≠ b → (fF_B a).2.1 ≠ (fF_B b).2.1 := by decide +kernel
set_option maxRecDepth 100000 in
theorem ft_B_ok : ∀ k, k < 9 → parseFieldDescriptor (fF_B k).2.2.1 = some (ft_B k) := by decide +kernel
set_option maxRecDepth 100000 in
theorem fi_B : ∀ w ∈ u_ws fR_B fF_B 9, w ∈ xWs := by
  exact List.forall_mem_cons.mpr ⟨xw207, List.forall_mem_cons.mpr ⟨xw209, List.forall_mem_cons.mpr ⟨xw211, List.forall_mem_cons.mpr ⟨xw213, List.forall_mem_cons.mpr ⟨xw215, List.forall_mem_cons.mpr ⟨xw217, List.forall_mem_cons.mpr ⟨xw219, List.forall_mem_cons.mpr ⟨xw221, List.forall_mem_cons.mpr ⟨xw223, fun _ h => absurd h List.not_mem_nil⟩⟩⟩⟩⟩⟩⟩⟩⟩
def fR_P : String := "LintDesk$Parser"
def fF_P : u_T := fun k => match k with
  | 0 => ("LintDesk$Parser", "tokens", "LLintDesk$Tokens;", true)
  | 1 => ("LintDesk$Parser", "scopes", "LLintDesk$Scopes;", true)
  | 2 => ("LintDesk$Parser", "marks", "LLintDesk$Marks;", true)
  | 3 => ("LintDesk$Parser", "binder", "LLintDesk$Binder;", true)
  | 4 => ("LintDesk$Parser", "at", "I", false)
  | _ => ("LintDesk$Parser", "scope", "I", false)
def ft_P : Nat → FieldType := fun k => match k with
  | 0 => .object "LintDesk$Tokens"
  | 1 => .object "LintDesk$Scopes"
  | 2 => .object "LintDesk$Marks"
  | 3 => .object "LintDesk$Binder"
  | 4 => .int
  | _ => .int
set_option maxRecDepth 100000 in
theorem fn_P : ∀ a, a < 6 → ∀ b, b < 6 → a ≠ b → (fF_P a).2.1 ≠ (fF_P b).2.1 := by decide +kernel
set_option maxRecDepth 100000 in
theorem ft_P_ok : ∀ k, k < 6 → parseFieldDescriptor (fF_P k).2.2.1 = some (ft_P k) := by decide +kernel
set_option maxRecDepth 100000 in
theorem fi_P : ∀ w ∈ u_ws fR_P fF_P 6, w ∈ xWs := by
  exact List.forall_mem_cons.mpr ⟨xw238, List.forall_mem_cons.mpr ⟨xw240, List.forall_mem_cons.mpr ⟨xw242, List.forall_mem_cons.mpr ⟨xw244, List.forall_mem_cons.mpr ⟨xw246, List.forall_mem_cons.mpr ⟨xw248, fun _ h => absurd h List.not_mem_nil⟩⟩⟩⟩⟩⟩
def fR_R : String := "LintDesk$Reading"
def fF_R : u_T := fun k => match k with
  | 0 => ("LintDesk$Reading", "letters", "LLintDesk$Letters;", true)
  | 1 => ("LintDesk$Reading", "tokens", "LLintDesk$Tokens;", true)
  | 2 => ("LintDesk$Reading", "scopes", "LLintDesk$Scopes;", true)
  | 3 => ("LintDesk$Reading", "things", "LLintDesk$Things;", true)
  | 4 => ("LintDesk$Reading", "marks", "LLintDesk$Marks;", true)
  | 5 => ("LintDesk$Reading", "binder", "LLintDesk$Binder;", true)
  | _ => ("LintDesk$Reading", "parser", "LLintDesk$Parser;", true)
def ft_R : Nat → FieldType := fun k => match k with
  | 0 => .object "LintDesk$Letters"
  | 1 => .object "LintDesk$Tokens"
  | 2 => .object "LintDesk$Scopes"
  | 3 => .object "LintDesk$Things"
  | 4 => .object "LintDesk$Marks"
  | 5 => .object "LintDesk$Binder"
  | _ => .object "LintDesk$Parser"
set_option maxRecDepth 100000 in
theorem fn_R : ∀ a, a < 7 → ∀ b, b < 7 → a ≠ b → (fF_R a).2.1 ≠ (fF_R b).2.1 := by decide +kernel
set_option maxRecDepth 100000 in
theorem ft_R_ok : ∀ k, k < 7 → parseFieldDescriptor (fF_R k).2.2.1 = some (ft_R k) := by decide +kernel
set_option maxRecDepth 100000 in
theorem fi_R : ∀ w ∈ u_ws fR_R fF_R 7, w ∈ xWs := by
  exact List.forall_mem_cons.mpr ⟨xw271, List.forall_mem_cons.mpr ⟨xw273, List.forall_mem_cons.mpr ⟨xw275, List.forall_mem_cons.mpr ⟨xw277, List.forall_mem_cons.mpr ⟨xw279, List.forall_mem_cons.mpr ⟨xw281, List.forall_mem_cons.mpr ⟨xw283, fun _ h => absurd h List.not_mem_nil⟩⟩⟩⟩⟩⟩⟩
def fR_N : String := "LintDeskModel"
def fF_N : u_T := fun k => match k with
  | 0 => ("LintDeskModel", "err", "I", false)
  | 1 => ("LintDeskModel", "written", "I", false)
  | 2 => ("LintDeskModel", "size", "I", false)
  | 3 => ("LintDeskModel", "wrongAt", "I", false)
  | 4 => ("LintDeskModel", "bad", "I", false)
  | 5 => ("LintDeskModel", "rounds", "I", false)
  | 6 => ("LintDeskModel", "given", "I", false)
  | 7 => ("LintDeskModel", "at", "I", false)
  | 8 => ("LintDeskModel", "top", "I", false)
  | 9 => ("LintDeskModel", "tokens", "I", false)
  | 10 => ("LintDeskModel", "draft", "[I", true)
  | 11 => ("LintDeskModel", "text", "[I", true)
  | 12 => ("LintDeskModel", "old", "[I", true)
  | 13 => ("LintDeskModel", "next", "[I", true)
  | 14 => ("LintDeskModel", "names", "[I", true)
  | 15 => ("LintDeskModel", "nameSizes", "[I", true)
  | 16 => ("LintDeskModel", "off", "[Z", true)
  | 17 => ("LintDeskModel", "kind", "[I", true)
  | 18 => ("LintDeskModel", "from", "[I", true)
  | 19 => ("LintDeskModel", "to", "[I", true)
  | 20 => ("LintDeskModel", "item", "[I", true)
  | 21 => ("LintDeskModel", "deep", "[I", true)
  | 22 => ("LintDeskModel", "aux", "[I", true)
  | 23 => ("LintDeskModel", "more", "[I", true)
  | 24 => ("LintDeskModel", "around", "[I", true)
  | 25 => ("LintDeskModel", "back", "[I", true)
  | 26 => ("LintDeskModel", "isFn", "[Z", true)
  | 27 => ("LintDeskModel", "scopes", "I", false)
  | 28 => ("LintDeskModel", "scope", "I", false)
  | 29 => ("LintDeskModel", "lists", "I", false)
  | 30 => ("LintDeskModel", "first", "[I", true)
  | 31 => ("LintDeskModel", "where", "[I", true)
  | 32 => ("LintDeskModel", "sort", "[I", true)
  | 33 => ("LintDeskModel", "times", "[I", true)
  | 34 => ("LintDeskModel", "reads", "[I", true)
  | 35 => ("LintDeskModel", "writes", "[I", true)
  | 36 => ("LintDeskModel", "things", "I", false)
  | 37 => ("LintDeskModel", "useToken", "[I", true)
  | 38 => ("LintDeskModel", "useScope", "[I", true)
  | 39 => ("LintDeskModel", "useThing", "[I", true)
  | 40 => ("LintDeskModel", "useWrites", "[Z", true)
  | 41 => ("LintDeskModel", "uses", "I", false)
  | 42 => ("LintDeskModel", "again", "[I", true)
  | 43 => ("LintDeskModel", "dead", "[I", true)
  | 44 => ("LintDeskModel", "equal", "[I", true)
  | 45 => ("LintDeskModel", "fixed", "[I", true)
  | 46 => ("LintDeskModel", "fixedThing", "[I", true)
  | 47 => ("LintDeskModel", "empty", "[I", true)
  | 48 => ("LintDeskModel", "emptyEnd", "[I", true)
  | 49 => ("LintDeskModel", "spare", "[I", true)
  | 50 => ("LintDeskModel", "excuse", "[I", true)
  | 51 => ("LintDeskModel", "excuseFrom", "[I", true)
  | 52 => ("LintDeskModel", "excuseTo", "[I", true)
  | 53 => ("LintDeskModel", "emptyGoes", "[Z", true)
  | 54 => ("LintDeskModel", "agains", "I", false)
  | 55 => ("LintDeskModel", "deads", "I", false)
  | 56 => ("LintDeskModel", "sames", "I", false)
  | 57 => ("LintDeskModel", "fixeds", "I", false)
  | 58 => ("LintDeskModel", "empties", "I", false)
  | 59 => ("LintDeskModel", "spares", "I", false)
  | 60 => ("LintDeskModel", "excuses", "I", false)
  | 61 => ("LintDeskModel", "foundRule", "[I", true)
  | 62 => ("LintDeskModel", "foundPlace", "[I", true)
  | 63 => ("LintDeskModel", "findings", "I", false)
  | _ => ("LintDeskModel", "excused", "I", false)
def ft_N : Nat → FieldType := fun k => match k with
  | 0 => .int
  | 1 => .int
  | 2 => .int
  | 3 => .int
  | 4 => .int
  | 5 => .int
  | 6 => .int
  | 7 => .int
  | 8 => .int
  | 9 => .int
  | 10 => .array .int
  | 11 => .array .int
  | 12 => .array .int
  | 13 => .array .int
  | 14 => .array .int
  | 15 => .array .int
  | 16 => .array .boolean
  | 17 => .array .int
  | 18 => .array .int
  | 19 => .array .int
  | 20 => .array .int
  | 21 => .array .int
  | 22 => .array .int
  | 23 => .array .int
  | 24 => .array .int
  | 25 => .array .int
  | 26 => .array .boolean
  | 27 => .int
  | 28 => .int
  | 29 => .int
  | 30 => .array .int
  | 31 => .array .int
  | 32 => .array .int
  | 33 => .array .int
  | 34 => .array .int
  | 35 => .array .int
  | 36 => .int
  | 37 => .array .int
  | 38 => .array .int
  | 39 => .array .int
  | 40 => .array .boolean
  | 41 => .int
  | 42 => .array .int
  | 43 => .array .int
  | 44 => .array .int
  | 45 => .array .int
  | 46 => .array .int
  | 47 => .array .int
  | 48 => .array .int
  | 49 => .array .int
  | 50 => .array .int
  | 51 => .array .int
  | 52 => .array .int
  | 53 => .array .boolean
  | 54 => .int
  | 55 => .int
  | 56 => .int
  | 57 => .int
  | 58 => .int
  | 59 => .int
  | 60 => .int
  | 61 => .array .int
  | 62 => .array .int
  | 63 => .int
  | _ => .int
set_option maxRecDepth 100000 in
theorem fn_N : ∀ a, a < 65 → ∀ b, b < 65 → a ≠ b → (fF_N a).2.1 ≠ (fF_N b).2.1 := by decide +kernel
set_option maxRecDepth 100000 in
theorem ft_N_ok : ∀ k, k < 65 → parseFieldDescriptor (fF_N k).2.2.1 = some (ft_N k) := by decide +kernel
set_option maxRecDepth 100000 in
theorem fi_N : ∀ w ∈ u_ws fR_N fF_N 65, w ∈ xWs := by
  exact List.forall_mem_cons.mpr ⟨xw1208, List.forall_mem_cons.mpr ⟨xw1210, List.forall_mem_cons.mpr ⟨xw1212, List.forall_mem_cons.mpr ⟨xw1214, List.forall_mem_cons.mpr ⟨xw1216, List.forall_mem_cons.mpr ⟨xw1218, List.forall_mem_cons.mpr ⟨xw1220, List.forall_mem_cons.mpr ⟨xw1222, List.forall_mem_cons.mpr ⟨xw1224, List.forall_mem_cons.mpr ⟨xw1226, List.forall_mem_cons.mpr ⟨xw1228, List.forall_mem_cons.mpr ⟨xw1230, List.forall_mem_cons.mpr ⟨xw1232, List.forall_mem_cons.mpr ⟨xw1234, List.forall_mem_cons.mpr ⟨xw1236, List.forall_mem_cons.mpr ⟨xw1238, List.forall_mem_cons.mpr ⟨xw1240, List.forall_mem_cons.mpr ⟨xw1242, List.forall_mem_cons.mpr ⟨xw1244, List.forall_mem_cons.mpr ⟨xw1246, List.forall_mem_cons.mpr ⟨xw1248, List.forall_mem_cons.mpr ⟨xw1250, List.forall_mem_cons.mpr ⟨xw1252, List.forall_mem_cons.mpr ⟨xw1254, List.forall_mem_cons.mpr ⟨xw1256, List.forall_mem_cons.mpr ⟨xw1258, List.forall_mem_cons.mpr ⟨xw1260, List.forall_mem_cons.mpr ⟨xw1262, List.forall_mem_cons.mpr ⟨xw1264, List.forall_mem_cons.mpr ⟨xw1266, List.forall_mem_cons.mpr ⟨xw1268, List.forall_mem_cons.mpr ⟨xw1270, List.forall_mem_cons.mpr ⟨xw1272, List.forall_mem_cons.mpr ⟨xw1274, List.forall_mem_cons.mpr ⟨xw1276, List.forall_mem_cons.mpr ⟨xw1278, List.forall_mem_cons.mpr ⟨xw1280, List.forall_mem_cons.mpr ⟨xw1282, List.forall_mem_cons.mpr ⟨xw1284, List.forall_mem_cons.mpr ⟨xw1286, List.forall_mem_cons.mpr ⟨xw1288, List.forall_mem_cons.mpr ⟨xw1290, List.forall_mem_cons.mpr ⟨xw1292, List.forall_mem_cons.mpr ⟨xw1294, List.forall_mem_cons.mpr ⟨xw1296, List.forall_mem_cons.mpr ⟨xw1298, List.forall_mem_cons.mpr ⟨xw1300, List.forall_mem_cons.mpr ⟨xw1302, List.forall_mem_cons.mpr ⟨xw1304, List.forall_mem_cons.mpr ⟨xw1306, List.forall_mem_cons.mpr ⟨xw1308, List.forall_mem_cons.mpr ⟨xw1310, List.forall_mem_cons.mpr ⟨xw1312, List.forall_mem_cons.mpr ⟨xw1314, List.forall_mem_cons.mpr ⟨xw1316, List.forall_mem_cons.mpr ⟨xw1318, List.forall_mem_cons.mpr ⟨xw1320, List.forall_mem_cons.mpr ⟨xw1322, List.forall_mem_cons.mpr ⟨xw1324, List.forall_mem_cons.mpr ⟨xw1326, List.forall_mem_cons.mpr ⟨xw1328, List.forall_mem_cons.mpr ⟨xw1330, List.forall_mem_cons.mpr ⟨xw1332, List.forall_mem_cons.mpr ⟨xw1334, List.forall_mem_cons.mpr ⟨xw1336, fun _ h => absurd h List.not_mem_nil⟩⟩⟩⟩⟩⟩⟩⟩⟩⟩⟩⟩⟩⟩⟩⟩⟩⟩⟩⟩⟩⟩⟩⟩⟩⟩⟩⟩⟩⟩⟩⟩⟩⟩⟩⟩⟩⟩⟩⟩⟩⟩⟩⟩⟩⟩⟩⟩⟩⟩⟩⟩⟩⟩⟩⟩⟩⟩⟩⟩⟩⟩⟩⟩⟩
def xCl : List vw_C := [(fR_D, fF_D, 6), (fR_L, fF_L, 2), (fR_G, fF_G, 3), (fR_T, fF_T, 7), (fR_S, fF_S, 4), (fR_H, fF_H, 9), (fR_M, fF_M, 3), (fR_B, fF_B, 9), (fR_P, fF_P, 6), (fR_R, fF_R, 7), (fR_N, fF_N, 65)]
