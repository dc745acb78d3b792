/-! classes: name, fields in order, types (printed by gen/names.py) -/
def R_D : String := "LintDesk"
def F_D : u_T := fun k => match k with
  | 0 => ("LintDesk", "written", "LLintDesk$Letters;", true)
  | 1 => ("LintDesk", "settings", "LLintDesk$Settings;", true)
  | 2 => ("LintDesk", "source", "LLintDesk$Reading;", false)
  | 3 => ("LintDesk", "spare", "LLintDesk$Reading;", false)
  | 4 => ("LintDesk", "wrongPlace", "I", false)
  | _ => ("LintDesk", "rounds", "I", false)
def t_D : Nat → FieldType := fun k => match k with
  | 0 => .object "LintDesk$Letters"
  | 1 => .object "LintDesk$Settings"
  | 2 => .object "LintDesk$Reading"
  | 3 => .object "LintDesk$Reading"
  | 4 => .int
  | _ => .int
set_option maxRecDepth 100000 in
theorem n_D : ∀ a, a < 6 → ∀ b, b < 6 → a ≠ b → (F_D a).2.1 ≠ (F_D b).2.1 := by decide +kernel
set_option maxRecDepth 100000 in
theorem t_D_ok : ∀ k, k < 6 → parseFieldDescriptor (F_D k).2.2.1 = some (t_D k) := by decide +kernel
set_option maxRecDepth 100000 in
theorem i_D : ∀ w ∈ u_ws R_D F_D 6, w ∈ xWs := by
  intro w hw
  obtain ⟨k, hk, rfl⟩ := List.mem_map.mp hw
  have hk : k < 6 := List.mem_range.mp hk
  match k, hk with
  | 0, _ => exact xw694
  | 1, _ => exact xw696
  | 2, _ => exact xw698
  | 3, _ => exact xw700
  | 4, _ => exact xw702
  | 5, _ => exact xw704
def R_L : String := "LintDesk$Letters"
def F_L : u_T := fun k => match k with
  | 0 => ("LintDesk$Letters", "row", "[C", true)
  | _ => ("LintDesk$Letters", "size", "I", false)
def t_L : Nat → FieldType := fun k => match k with
  | 0 => .array .char
  | _ => .int
set_option maxRecDepth 100000 in
theorem n_L : ∀ a, a < 2 → ∀ b, b < 2 → a ≠ b → (F_L a).2.1 ≠ (F_L b).2.1 := by decide +kernel
set_option maxRecDepth 100000 in
theorem t_L_ok : ∀ k, k < 2 → parseFieldDescriptor (F_L k).2.2.1 = some (t_L k) := by decide +kernel
set_option maxRecDepth 100000 in
theorem i_L : ∀ w ∈ u_ws R_L F_L 2, w ∈ xWs := by
  intro w hw
  obtain ⟨k, hk, rfl⟩ := List.mem_map.mp hw
  have hk : k < 2 := List.mem_range.mp hk
  match k, hk with
  | 0, _ => exact xw44
  | 1, _ => exact xw46
def R_G : String := "LintDesk$Settings"
def F_G : u_T := fun k => match k with
  | 0 => ("LintDesk$Settings", "given", "[J", true)
  | 1 => ("LintDesk$Settings", "givenSize", "I", false)
  | _ => ("LintDesk$Settings", "rulesOn", "I", false)
def t_G : Nat → FieldType := fun k => match k with
  | 0 => .array .long
  | 1 => .int
  | _ => .int
set_option maxRecDepth 100000 in
theorem n_G : ∀ a, a < 3 → ∀ b, b < 3 → a ≠ b → (F_G a).2.1 ≠ (F_G b).2.1 := by decide +kernel
set_option maxRecDepth 100000 in
theorem t_G_ok : ∀ k, k < 3 → parseFieldDescriptor (F_G k).2.2.1 = some (t_G k) := by decide +kernel
set_option maxRecDepth 100000 in
theorem i_G : ∀ w ∈ u_ws R_G F_G 3, w ∈ xWs := by
  intro w hw
  obtain ⟨k, hk, rfl⟩ := List.mem_map.mp hw
  have hk : k < 3 := List.mem_range.mp hk
  match k, hk with
  | 0, _ => exact xw60
  | 1, _ => exact xw62
  | 2, _ => exact xw64
def R_T : String := "LintDesk$Tokens"
def F_T : u_T := fun k => match k with
  | 0 => ("LintDesk$Tokens", "letters", "LLintDesk$Letters;", true)
  | 1 => ("LintDesk$Tokens", "kinds", "[LLintDesk$Token;", true)
  | 2 => ("LintDesk$Tokens", "starts", "[I", true)
  | 3 => ("LintDesk$Tokens", "ends", "[I", true)
  | 4 => ("LintDesk$Tokens", "octets", "[J", true)
  | 5 => ("LintDesk$Tokens", "words", "[I", true)
  | _ => ("LintDesk$Tokens", "size", "I", false)
def t_T : Nat → FieldType := fun k => match k with
  | 0 => .object "LintDesk$Letters"
  | 1 => .array (.object "LintDesk$Token")
  | 2 => .array .int
  | 3 => .array .int
  | 4 => .array .long
  | 5 => .array .int
  | _ => .int
set_option maxRecDepth 100000 in
theorem n_T : ∀ a, a < 7 → ∀ b, b < 7 → a ≠ b → (F_T a).2.1 ≠ (F_T b).2.1 := by decide +kernel
set_option maxRecDepth 100000 in
theorem t_T_ok : ∀ k, k < 7 → parseFieldDescriptor (F_T k).2.2.1 = some (t_T k) := by decide +kernel
set_option maxRecDepth 100000 in
theorem i_T : ∀ w ∈ u_ws R_T F_T 7, w ∈ xWs := by
  intro w hw
  obtain ⟨k, hk, rfl⟩ := List.mem_map.mp hw
  have hk : k < 7 := List.mem_range.mp hk
  match k, hk with
  | 0, _ => exact xw88
  | 1, _ => exact xw90
  | 2, _ => exact xw92
  | 3, _ => exact xw94
  | 4, _ => exact xw96
  | 5, _ => exact xw98
  | 6, _ => exact xw100
def R_S : String := "LintDesk$Scopes"
def F_S : u_T := fun k => match k with
  | 0 => ("LintDesk$Scopes", "around", "[I", true)
  | 1 => ("LintDesk$Scopes", "homes", "[I", true)
  | 2 => ("LintDesk$Scopes", "levels", "[I", true)
  | _ => ("LintDesk$Scopes", "size", "I", false)
def t_S : Nat → FieldType := fun k => match k with
  | 0 => .array .int
  | 1 => .array .int
  | 2 => .array .int
  | _ => .int
set_option maxRecDepth 100000 in
theorem n_S : ∀ a, a < 4 → ∀ b, b < 4 → a ≠ b → (F_S a).2.1 ≠ (F_S b).2.1 := by decide +kernel
set_option maxRecDepth 100000 in
theorem t_S_ok : ∀ k, k < 4 → parseFieldDescriptor (F_S k).2.2.1 = some (t_S k) := by decide +kernel
set_option maxRecDepth 100000 in
theorem i_S : ∀ w ∈ u_ws R_S F_S 4, w ∈ xWs := by
  intro w hw
  obtain ⟨k, hk, rfl⟩ := List.mem_map.mp hw
  have hk : k < 4 := List.mem_range.mp hk
  match k, hk with
  | 0, _ => exact xw115
  | 1, _ => exact xw117
  | 2, _ => exact xw119
  | 3, _ => exact xw121
def R_H : String := "LintDesk$Things"
def F_H : u_T := fun k => match k with
  | 0 => ("LintDesk$Things", "names", "[I", true)
  | 1 => ("LintDesk$Things", "words", "[I", true)
  | 2 => ("LintDesk$Things", "kinds", "[I", true)
  | 3 => ("LintDesk$Things", "scopes", "[I", true)
  | 4 => ("LintDesk$Things", "reads", "[I", true)
  | 5 => ("LintDesk$Things", "writes", "[I", true)
  | 6 => ("LintDesk$Things", "times", "[I", true)
  | 7 => ("LintDesk$Things", "valued", "[Z", true)
  | _ => ("LintDesk$Things", "size", "I", false)
def t_H : Nat → FieldType := fun k => match k with
  | 0 => .array .int
  | 1 => .array .int
  | 2 => .array .int
  | 3 => .array .int
  | 4 => .array .int
  | 5 => .array .int
  | 6 => .array .int
  | 7 => .array .boolean
  | _ => .int
set_option maxRecDepth 100000 in
theorem n_H : ∀ a, a < 9 → ∀ b, b < 9 → a ≠ b → (F_H a).2.1 ≠ (F_H b).2.1 := by decide +kernel
set_option maxRecDepth 100000 in
theorem t_H_ok : ∀ k, k < 9 → parseFieldDescriptor (F_H k).2.2.1 = some (t_H k) := by decide +kernel
set_option maxRecDepth 100000 in
theorem i_H : ∀ w ∈ u_ws R_H F_H 9, w ∈ xWs := by
  intro w hw
  obtain ⟨k, hk, rfl⟩ := List.mem_map.mp hw
  have hk : k < 9 := List.mem_range.mp hk
  match k, hk with
  | 0, _ => exact xw155
  | 1, _ => exact xw157
  | 2, _ => exact xw159
  | 3, _ => exact xw161
  | 4, _ => exact xw163
  | 5, _ => exact xw165
  | 6, _ => exact xw167
  | 7, _ => exact xw169
  | 8, _ => exact xw171
def R_M : String := "LintDesk$Marks"
def F_M : u_T := fun k => match k with
  | 0 => ("LintDesk$Marks", "rules", "[I", true)
  | 1 => ("LintDesk$Marks", "excused", "[I", true)
  | _ => ("LintDesk$Marks", "loose", "[Z", true)
def t_M : Nat → FieldType := fun k => match k with
  | 0 => .array .int
  | 1 => .array .int
  | _ => .array .boolean
set_option maxRecDepth 100000 in
theorem n_M : ∀ a, a < 3 → ∀ b, b < 3 → a ≠ b → (F_M a).2.1 ≠ (F_M b).2.1 := by decide +kernel
set_option maxRecDepth 100000 in
theorem t_M_ok : ∀ k, k < 3 → parseFieldDescriptor (F_M k).2.2.1 = some (t_M k) := by decide +kernel
set_option maxRecDepth 100000 in
theorem i_M : ∀ w ∈ u_ws R_M F_M 3, w ∈ xWs := by
  intro w hw
  obtain ⟨k, hk, rfl⟩ := List.mem_map.mp hw
  have hk : k < 3 := List.mem_range.mp hk
  match k, hk with
  | 0, _ => exact xw184
  | 1, _ => exact xw186
  | 2, _ => exact xw188
def R_B : String := "LintDesk$Binder"
def F_B : u_T := fun k => match k with
  | 0 => ("LintDesk$Binder", "tokens", "LLintDesk$Tokens;", true)
  | 1 => ("LintDesk$Binder", "scopes", "LLintDesk$Scopes;", true)
  | 2 => ("LintDesk$Binder", "things", "LLintDesk$Things;", true)
  | 3 => ("LintDesk$Binder", "marks", "LLintDesk$Marks;", true)
  | 4 => ("LintDesk$Binder", "uses", "[I", true)
  | 5 => ("LintDesk$Binder", "useScopes", "[I", true)
  | 6 => ("LintDesk$Binder", "writing", "[Z", true)
  | 7 => ("LintDesk$Binder", "size", "I", false)
  | _ => ("LintDesk$Binder", "freeUses", "I", false)
def t_B : Nat → FieldType := fun k => match k with
  | 0 => .object "LintDesk$Tokens"
  | 1 => .object "LintDesk$Scopes"
  | 2 => .object "LintDesk$Things"
  | 3 => .object "LintDesk$Marks"
  | 4 => .array .int
  | 5 => .array .int
  | 6 => .array .boolean
  | 7 => .int
  | _ => .int
set_option maxRecDepth 100000 in
theorem n_B : ∀ a, a < 9 → ∀ b, b < 9 → a ≠ b → (F_B a).2.1 ≠ (F_B b).2.1 := by decide +kernel
set_option maxRecDepth 100000 in
theorem t_B_ok : ∀ k, k < 9 → parseFieldDescriptor (F_B k).2.2.1 = some (t_B k) := by decide +kernel
set_option maxRecDepth 100000 in
theorem i_B : ∀ w ∈ u_ws R_B F_B 9, w ∈ xWs := by
  intro w hw
  obtain ⟨k, hk, rfl⟩ := List.mem_map.mp hw
  have hk : k < 9 := List.mem_range.mp hk
  match k, hk with
  | 0, _ => exact xw207
  | 1, _ => exact xw209
  | 2, _ => exact xw211
  | 3, _ => exact xw213
  | 4, _ => exact xw215
  | 5, _ => exact xw217
  | 6, _ => exact xw219
  | 7, _ => exact xw221
  | 8, _ => exact xw223
def R_P : String := "LintDesk$Parser"
def F_P : u_T := fun k => match k with
  | 0 => ("LintDesk$Parser", "tokens", "LLintDesk$Tokens;", true)
  | 1 => ("LintDesk$Parser", "scopes", "LLintDesk$Scopes;", true)
  | 2 => ("LintDesk$Parser", "marks", "LLintDesk$Marks;", true)
  | 3 => ("LintDesk$Parser", "binder", "LLintDesk$Binder;", true)
  | 4 => ("LintDesk$Parser", "at", "I", false)
  | _ => ("LintDesk$Parser", "scope", "I", false)
def t_P : Nat → FieldType := fun k => match k with
  | 0 => .object "LintDesk$Tokens"
  | 1 => .object "LintDesk$Scopes"
  | 2 => .object "LintDesk$Marks"
  | 3 => .object "LintDesk$Binder"
  | 4 => .int
  | _ => .int
set_option maxRecDepth 100000 in
theorem n_P : ∀ a, a < 6 → ∀ b, b < 6 → a ≠ b → (F_P a).2.1 ≠ (F_P b).2.1 := by decide +kernel
set_option maxRecDepth 100000 in
theorem t_P_ok : ∀ k, k < 6 → parseFieldDescriptor (F_P k).2.2.1 = some (t_P k) := by decide +kernel
set_option maxRecDepth 100000 in
theorem i_P : ∀ w ∈ u_ws R_P F_P 6, w ∈ xWs := by
  intro w hw
  obtain ⟨k, hk, rfl⟩ := List.mem_map.mp hw
  have hk : k < 6 := List.mem_range.mp hk
  match k, hk with
  | 0, _ => exact xw238
  | 1, _ => exact xw240
  | 2, _ => exact xw242
  | 3, _ => exact xw244
  | 4, _ => exact xw246
  | 5, _ => exact xw248
def R_R : String := "LintDesk$Reading"
def F_R : u_T := fun k => match k with
  | 0 => ("LintDesk$Reading", "letters", "LLintDesk$Letters;", true)
  | 1 => ("LintDesk$Reading", "tokens", "LLintDesk$Tokens;", true)
  | 2 => ("LintDesk$Reading", "scopes", "LLintDesk$Scopes;", true)
  | 3 => ("LintDesk$Reading", "things", "LLintDesk$Things;", true)
  | 4 => ("LintDesk$Reading", "marks", "LLintDesk$Marks;", true)
  | 5 => ("LintDesk$Reading", "binder", "LLintDesk$Binder;", true)
  | _ => ("LintDesk$Reading", "parser", "LLintDesk$Parser;", true)
def t_R : Nat → FieldType := fun k => match k with
  | 0 => .object "LintDesk$Letters"
  | 1 => .object "LintDesk$Tokens"
  | 2 => .object "LintDesk$Scopes"
  | 3 => .object "LintDesk$Things"
  | 4 => .object "LintDesk$Marks"
  | 5 => .object "LintDesk$Binder"
  | _ => .object "LintDesk$Parser"
set_option maxRecDepth 100000 in
theorem n_R : ∀ a, a < 7 → ∀ b, b < 7 → a ≠ b → (F_R a).2.1 ≠ (F_R b).2.1 := by decide +kernel
set_option maxRecDepth 100000 in
theorem t_R_ok : ∀ k, k < 7 → parseFieldDescriptor (F_R k).2.2.1 = some (t_R k) := by decide +kernel
set_option maxRecDepth 100000 in
theorem i_R : ∀ w ∈ u_ws R_R F_R 7, w ∈ xWs := by
  intro w hw
  obtain ⟨k, hk, rfl⟩ := List.mem_map.mp hw
  have hk : k < 7 := List.mem_range.mp hk
  match k, hk with
  | 0, _ => exact xw271
  | 1, _ => exact xw273
  | 2, _ => exact xw275
  | 3, _ => exact xw277
  | 4, _ => exact xw279
  | 5, _ => exact xw281
  | 6, _ => exact xw283
def R_N : String := "LintDeskModel"
def F_N : u_T := fun k => match k with
  | 0 => ("LintDeskModel", "err", "I", false)
  | 1 => ("LintDeskModel", "written", "I", false)
  | 2 => ("LintDeskModel", "size", "I", false)
  | 3 => ("LintDeskModel", "wrongAt", "I", false)
  | 4 => ("LintDeskModel", "bad", "I", false)
  | 5 => ("LintDeskModel", "rounds", "I", false)
  | 6 => ("LintDeskModel", "given", "I", false)
  | 7 => ("LintDeskModel", "at", "I", false)
  | 8 => ("LintDeskModel", "top", "I", false)
  | 9 => ("LintDeskModel", "tokens", "I", false)
  | 10 => ("LintDeskModel", "draft", "[I", true)
  | 11 => ("LintDeskModel", "text", "[I", true)
  | 12 => ("LintDeskModel", "old", "[I", true)
  | 13 => ("LintDeskModel", "next", "[I", true)
  | 14 => ("LintDeskModel", "names", "[I", true)
  | 15 => ("LintDeskModel", "nameSizes", "[I", true)
  | 16 => ("LintDeskModel", "off", "[Z", true)
  | 17 => ("LintDeskModel", "kind", "[I", true)
  | 18 => ("LintDeskModel", "from", "[I", true)
  | 19 => ("LintDeskModel", "to", "[I", true)
  | 20 => ("LintDeskModel", "item", "[I", true)
  | 21 => ("LintDeskModel", "deep", "[I", true)
  | 22 => ("LintDeskModel", "aux", "[I", true)
  | 23 => ("LintDeskModel", "more", "[I", true)
  | 24 => ("LintDeskModel", "around", "[I", true)
  | 25 => ("LintDeskModel", "back", "[I", true)
  | 26 => ("LintDeskModel", "isFn", "[Z", true)
  | 27 => ("LintDeskModel", "scopes", "I", false)
  | 28 => ("LintDeskModel", "scope", "I", false)
  | 29 => ("LintDeskModel", "lists", "I", false)
  | 30 => ("LintDeskModel", "first", "[I", true)
  | 31 => ("LintDeskModel", "where", "[I", true)
  | 32 => ("LintDeskModel", "sort", "[I", true)
  | 33 => ("LintDeskModel", "times", "[I", true)
  | 34 => ("LintDeskModel", "reads", "[I", true)
  | 35 => ("LintDeskModel", "writes", "[I", true)
  | 36 => ("LintDeskModel", "things", "I", false)
  | 37 => ("LintDeskModel", "useToken", "[I", true)
  | 38 => ("LintDeskModel", "useScope", "[I", true)
  | 39 => ("LintDeskModel", "useThing", "[I", true)
  | 40 => ("LintDeskModel", "useWrites", "[Z", true)
  | 41 => ("LintDeskModel", "uses", "I", false)
  | 42 => ("LintDeskModel", "again", "[I", true)
  | 43 => ("LintDeskModel", "dead", "[I", true)
  | 44 => ("LintDeskModel", "equal", "[I", true)
  | 45 => ("LintDeskModel", "fixed", "[I", true)
  | 46 => ("LintDeskModel", "fixedThing", "[I", true)
  | 47 => ("LintDeskModel", "empty", "[I", true)
  | 48 => ("LintDeskModel", "emptyEnd", "[I", true)
  | 49 => ("LintDeskModel", "spare", "[I", true)
  | 50 => ("LintDeskModel", "excuse", "[I", true)
  | 51 => ("LintDeskModel", "excuseFrom", "[I", true)
  | 52 => ("LintDeskModel", "excuseTo", "[I", true)
  | 53 => ("LintDeskModel", "emptyGoes", "[Z", true)
  | 54 => ("LintDeskModel", "agains", "I", false)
  | 55 => ("LintDeskModel", "deads", "I", false)
  | 56 => ("LintDeskModel", "sames", "I", false)
  | 57 => ("LintDeskModel", "fixeds", "I", false)
  | 58 => ("LintDeskModel", "empties", "I", false)
  | 59 => ("LintDeskModel", "spares", "I", false)
  | 60 => ("LintDeskModel", "excuses", "I", false)
  | 61 => ("LintDeskModel", "foundRule", "[I", true)
  | 62 => ("LintDeskModel", "foundPlace", "[I", true)
  | 63 => ("LintDeskModel", "findings", "I", false)
  | _ => ("LintDeskModel", "excused", "I", false)
def t_N : Nat → FieldType := fun k => match k with
  | 0 => .int
  | 1 => .int
  | 2 => .int
  | 3 => .int
  | 4 => .int
  | 5 => .int
  | 6 => .int
  | 7 => .int
  | 8 => .int
  | 9 => .int
  | 10 => .array .int
  | 11 => .array .int
  | 12 => .array .int
  | 13 => .array .int
  | 14 => .array .int
  | 15 => .array .int
  | 16 => .array .boolean
  | 17 => .array .int
  | 18 => .array .int
  | 19 => .array .int
  | 20 => .array .int
  | 21 => .array .int
  | 22 => .array .int
  | 23 => .array .int
  | 24 => .array .int
  | 25 => .array .int
  | 26 => .array .boolean
  | 27 => .int
  | 28 => .int
  | 29 => .int
  | 30 => .array .int
  | 31 => .array .int
  | 32 => .array .int
  | 33 => .array .int
  | 34 => .array .int
  | 35 => .array .int
  | 36 => .int
  | 37 => .array .int
  | 38 => .array .int
  | 39 => .array .int
  | 40 => .array .boolean
  | 41 => .int
  | 42 => .array .int
  | 43 => .array .int
  | 44 => .array .int
  | 45 => .array .int
  | 46 => .array .int
  | 47 => .array .int
  | 48 => .array .int
  | 49 => .array .int
  | 50 => .array .int
  | 51 => .array .int
  | 52 => .array .int
  | 53 => .array .boolean
  | 54 => .int
  | 55 => .int
  | 56 => .int
  | 57 => .int
  | 58 => .int
  | 59 => .int
  | 60 => .int
  | 61 => .array .int
  | 62 => .array .int
  | 63 => .int
  | _ => .int
set_option maxRecDepth 100000 in
theorem n_N : ∀ a, a < 65 → ∀ b, b < 65 → a ≠ b → (F_N a).2.1 ≠ (F_N b).2.1 := by decide +kernel
set_option maxRecDepth 100000 in
theorem t_N_ok : ∀ k, k < 65 → parseFieldDescriptor (F_N k).2.2.1 = some (t_N k) := by decide +kernel
set_option maxRecDepth 100000 in
theorem i_N : ∀ w ∈ u_ws R_N F_N 65, w ∈ xWs := by
  intro w hw
  obtain ⟨k, hk, rfl⟩ := List.mem_map.mp hw
  have hk : k < 65 := List.mem_range.mp hk
  match k, hk with
  | 0, _ => exact xw1203
  | 1, _ => exact xw1205
  | 2, _ => exact xw1207
  | 3, _ => exact xw1209
  | 4, _ => exact xw1211
  | 5, _ => exact xw1213
  | 6, _ => exact xw1215
  | 7, _ => exact xw1217
  | 8, _ => exact xw1219
  | 9, _ => exact xw1221
  | 10, _ => exact xw1223
  | 11, _ => exact xw1225
  | 12, _ => exact xw1227
  | 13, _ => exact xw1229
  | 14, _ => exact xw1231
  | 15, _ => exact xw1233
  | 16, _ => exact xw1235
  | 17, _ => exact xw1237
  | 18, _ => exact xw1239
  | 19, _ => exact xw1241
  | 20, _ => exact xw1243
  | 21, _ => exact xw1245
  | 22, _ => exact xw1247
  | 23, _ => exact xw1249
  | 24, _ => exact xw1251
  | 25, _ => exact xw1253
  | 26, _ => exact xw1255
  | 27, _ => exact xw1257
  | 28, _ => exact xw1259
  | 29, _ => exact xw1261
  | 30, _ => exact xw1263
  | 31, _ => exact xw1265
  | 32, _ => exact xw1267
  | 33, _ => exact xw1269
  | 34, _ => exact xw1271
  | 35, _ => exact xw1273
  | 36, _ => exact xw1275
  | 37, _ => exact xw1277
  | 38, _ => exact xw1279
  | 39, _ => exact xw1281
  | 40, _ => exact xw1283
  | 41, _ => exact xw1285
  | 42, _ => exact xw1287
  | 43, _ => exact xw1289
  | 44, _ => exact xw1291
  | 45, _ => exact xw1293
  | 46, _ => exact xw1295
  | 47, _ => exact xw1297
  | 48, _ => exact xw1299
  | 49, _ => exact xw1301
  | 50, _ => exact xw1303
  | 51, _ => exact xw1305
  | 52, _ => exact xw1307
  | 53, _ => exact xw1309
  | 54, _ => exact xw1311
  | 55, _ => exact xw1313
  | 56, _ => exact xw1315
  | 57, _ => exact xw1317
  | 58, _ => exact xw1319
  | 59, _ => exact xw1321
  | 60, _ => exact xw1323
  | 61, _ => exact xw1325
  | 62, _ => exact xw1327
  | 63, _ => exact xw1329
  | 64, _ => exact xw1331
def xCl : List vw_C := [(R_D, F_D, 6), (R_L, F_L, 2), (R_G, F_G, 3), (R_T, F_T, 7), (R_S, F_S, 4), (R_H, F_H, 9), (R_M, F_M, 3), (R_B, F_B, 9), (R_P, F_P, 6), (R_R, F_R, 7), (R_N, F_N, 65)]
