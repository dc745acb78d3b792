/-! throwing: what holds of the tables -/
def xIA : String := "java/lang/IllegalArgumentException"
def xIS : String := "java/lang/IllegalStateException"
def xIX : String := "java/lang/IndexOutOfBoundsException"
def xNm : List String := ["java/lang/RuntimeException", "java/lang/Exception"]
/-- words that no change of the heap turns, and no warming -/
def xTw : List Cond := [.declares (Bundle.initS "java/lang/RuntimeException"), .declares (Bundle.initS "java/lang/Exception"), .declares (Bundle.initS Bundle.tN), .castable xIA xIA, .castable xIS xIS, .castable xIX xIX]
def xTz : List Cond := [.laysStatic Bundle.tN "UNASSIGNED_STACK" Bundle.steD, .laysStatic Bundle.tN "SUPPRESSED_SENTINEL" Bundle.listD, .isRef (.static Bundle.tN "UNASSIGNED_STACK" Bundle.steD), .isRef (.static Bundle.tN "SUPPRESSED_SENTINEL" Bundle.listD)]
def xMsg : List (Nat × String) := [(54, "no LETTERS"), (64, "more than 160 LETTERS"), (85, "no PROGRAM"), (94, "no RULE"), (121, "no NAME"), (129, "GIVEN already"), (135, "8 are GIVEN"), (145, "no such FINDING"), (169, "no such LETTER"), (182, "no such thing"), (211, "nothing to tell"), (227, "nothing to count")]
def xApart : List (String × String) := [(xIA, xIX), (xIX, xIA), (xIA, xIS), (xIS, xIA), (xIS, xIX), (xIX, xIS)]
def xNo (a b : String) (U : State) : Prop := ∃ x y, U.vm.findClass a = some x ∧ U.vm.findClass b = some y ∧ U.vm.assignable x y = false
/-- a static of the JDK's that holds a reference, or null; it lies below what is ours -/
def xLs (G : xG) (O f d : String) (U : State) (H : Heap) : Prop := ∃ (c : ClassId) (k : Class) (i : Nat) (fd : Field) (a : Addr) (cell : Cell), U.vm.findClass O = some c ∧ U.fieldFound? O f d = some (c, k, i, fd) ∧ fd.isStatic = true ∧ k.statics = some a ∧ H[a]? = some cell ∧ cell.vm.isStatics = true ∧ cell.cls = c ∧ fd.slot < cell.slots.size ∧ k.staticTypes[fd.slot]? = some fd.type ∧ (∃ v, cell.slots[fd.slot]? = some v ∧ (v = .null ∨ ∃ x, v = .ref x)) ∧ ¬ xA G a
theorem xLs.moved {G : xG} {O f d : String} {u U : State} {H : Heap} (hvm : u.vm.Alike U.vm) (h : xLs G O f d u H) : xLs G O f d U H := by
  obtain ⟨c, k, i, fd, a, cell, h0, h1, h2, h3, h4, h5, h6, h7, h8, h9, h10⟩ := h
  obtain ⟨k', hi', he⟩ := State.fieldFound?_setVm hvm h1
  exact ⟨c, k', i, fd, a, cell, by rw [hvm.findClass]; exact h0, hi', h2, by rw [he]; exact h3, h4, h5, h6, h7, by rw [he]; exact h8, h9, h10⟩
theorem xLs.kept {G : xG} {O f d : String} {U : State} {H H1 : Heap} (h : xLs G O f d U H) (hq : ∀ a : Nat, a < H.size → ¬ xA G a → H1[a]? = H[a]?) : xLs G O f d U H1 := by
  obtain ⟨c, k, i, fd, a, cell, h0, h1, h2, h3, h4, h5, h6, h7, h8, h9, h10⟩ := h
  exact ⟨c, k, i, fd, a, cell, h0, h1, h2, h3, by rw [hq a (Array.getElem?_eq_some_iff.mp h4).1 h10]; exact h4, h5, h6, h7, h8, h9, h10⟩
theorem xLs.of {G : xG} {O f d : String} {args : Array Value} {U : State} (hl : (Cond.laysStatic O f d).before args U = true) (h : (Cond.isRef (.static O f d)).before args U = true) (hA : ∀ a : Nat, a < U.heap.size → ¬ xA G a) : xLs G O f d U U.heap := by
  obtain ⟨c, k, i, fd, a, cell, hc, hf, hst, hsta, hcell, hiss, hcls, hlt, hty⟩ := Cond.laysStatic_spec hl
  refine ⟨c, k, i, fd, a, cell, hc, hf, hst, hsta, hcell, hiss, hcls, hlt, hty, ?_, hA a (Array.getElem?_eq_some_iff.mp hcell).1⟩
  have hv : cell.slots[fd.slot]? = some cell.slots[fd.slot] := Array.getElem?_eq_getElem hlt
  refine ⟨_, hv, ?_⟩
  have he : (Term.static O f d).eval args U none [] U = some cell.slots[fd.slot] := by
    simp [Term.eval, State.fieldNamed?, hf, hst, hsta, hcell, hiss, hv]
  simp only [Cond.before, Cond.holds, Cond.value, he] at h
  cases hw : cell.slots[fd.slot] with
  | null => exact .inl rfl
  | ref x => exact .inr ⟨x, rfl⟩
  | _ => simp [hw] at h
theorem xLs.lays {G : xG} {O f d : String} {args : Array Value} {U : State} (h : xLs G O f d U U.heap) : (Cond.laysStatic O f d).before args U = true ∧ (Cond.isRef (.static O f d)).before args U = true := by
  obtain ⟨c, k, i, fd, a, cell, hc, hf, hst, hsta, hcell, hiss, hcls, hlt, hty, ⟨v, hv, hr⟩, h10⟩ := h
  refine ⟨by simp [Cond.before, Cond.holds, Cond.value, hc, hf, hst, hsta, hcell, hiss, hcls, hlt, hty], ?_⟩
  have he : (Term.static O f d).eval args U none [] U = some v := by
    simp [Term.eval, State.fieldNamed?, hf, hst, hsta, hcell, hiss, hv]
  simp only [Cond.before, Cond.holds, Cond.value, he]
  rcases hr with e | ⟨x, e⟩ <;> simp [e]
/-- what throwing asks -/
def xT (G : xG) (U : State) : Prop := (∀ w ∈ xTw, va_Nw w U) ∧ xLs G Bundle.tN "UNASSIGNED_STACK" Bundle.steD U U.heap ∧ xLs G Bundle.tN "SUPPRESSED_SENTINEL" Bundle.listD U U.heap ∧ (∀ q ∈ xMsg, ∃ a, vk_R "LintDesk" q.1 q.2 a U) ∧ ∀ q ∈ xApart, xNo q.1 q.2 U
def xTwk : Cond → Bool
  | .declares .. => true
  | .castable .. => true
  | _ => false
theorem xTw_k : ∀ w ∈ xTw, xTwk w = true := by decide
theorem xTw_warm {w : Cond} (h : xTwk w = true) {s U : State} (hW : s.WarmedH U.vm) (hZ : va_Nw w s) : va_Nw w U := by
  cases w <;> first | exact va_Nw.warmD hW hZ | exact va_Nw.warmC hW hZ | (simp [xTwk] at h)
theorem xTw_same {w : Cond} (h : xTwk w = true) {s U : State} (hv : s.vm = U.vm) (hZ : va_Nw w s) : va_Nw w U := by
  cases w <;> first | exact va_Nw.same rfl hv hZ | (simp [xTwk] at h)
theorem xNo.moved {a b : String} {u U : State} (hvm : u.vm.Alike U.vm) (h : xNo a b u) : xNo a b U := by
  obtain ⟨x, y, h1, h2, h3⟩ := h
  exact ⟨x, y, by rw [hvm.findClass]; exact h1, by rw [hvm.findClass]; exact h2, by rw [hvm.assignable]; exact h3⟩
theorem xT.step {G : xG} {s U : State} {H : Heap} {locs : List Loc} (h : xT G s) (hW : s.WarmedH U.vm) (hS : va_S (xA G) s.heap H locs) (hU : U.heap = H) : xT G U := by
  obtain ⟨h1, h2, h3, h4, h5⟩ := h
  have kp : ∀ a : Nat, a < s.heap.size → ¬ xA G a → U.heap[a]? = s.heap[a]? := fun a ha hn => by rw [hU]; exact hS.2.1 a ha hn
  exact ⟨fun w hw => xTw_warm (xTw_k w hw) hW (h1 w hw), (h2.moved hW.alike).kept kp, (h3.moved hW.alike).kept kp, fun q hq => by obtain ⟨a, ha⟩ := h4 q hq; exact ⟨a, ha.warm hW⟩, fun q hq => (h5 q hq).moved hW.alike⟩
theorem xT.same {G : xG} {u U : State} (hv : u.vm = U.vm) (hh : U.heap = u.heap) (h : xT G u) : xT G U := by
  obtain ⟨h1, h2, h3, h4, h5⟩ := h
  have al : u.vm.Alike U.vm := by rw [hv]; exact Vm.Alike.refl _
  exact ⟨fun w hw => xTw_same (xTw_k w hw) hv (h1 w hw), by rw [hh]; exact h2.moved al, by rw [hh]; exact h3.moved al, fun q hq => by obtain ⟨a, ha⟩ := h4 q hq; exact ⟨a, ha.same hv.symm⟩, fun q hq => (h5 q hq).moved al⟩
def xOwn (ic : Nat) (X : String) : Prop := ∀ w ∈ Bundle.ownAtoms "LintDesk" ic X xNm, w ∈ xWs ∨ w ∈ xTw ∨ w ∈ xTz
theorem xOwn_of {ic : Nat} {X : String} (h : (Bundle.ownAtoms "LintDesk" ic X xNm).all (fun w => xWs.contains w || (xTw.contains w || xTz.contains w)) = true) : xOwn ic X := by
  intro w hw
  have := List.all_eq_true.mp h w hw
  simp only [Bool.or_eq_true, List.contains_iff_mem] at this
  exact this
theorem xOwn_IA : xOwn 56 xIA := xOwn_of (by decide +kernel)
theorem xOwn_IX : xOwn 66 xIX := xOwn_of (by decide +kernel)
theorem xOwn_IS : xOwn 131 xIS := xOwn_of (by decide +kernel)
