/-! THE X LAYER: one judgement for a method's walk. The heap of ours is a function h from addresses to cells; G holds what is fixed for a whole run of the law. -/
def xu (h : xH) (a : Nat) (e : va_E) : xH := fun q => if q = a then some e else h q
theorem xu_s (h : xH) (a : Nat) (e : va_E) : xu h a e a = some e := if_pos rfl
theorem xu_n (h : xH) {a q : Nat} (e : va_E) (n : q ≠ a) : xu h a e q = h q := if_neg n
/-- the cells of h stand in the heap, from B on -/
def xP (G : xG) (h : xH) (H : Heap) : Prop := ∀ (a : Nat) (e : va_E), h a = some e → gB G ≤ a ∧ va_at (gD G) xCl (a, e) H
def xL (ls : Array Slot) (nL : Nat) (L : List (Option Value)) : Prop := ls.size = nL ∧ lv_wf ls ∧ ∀ (i : Nat) (v : Value), L[i]? = some (some v) → ls[i]? = some (.val v)
def xps : Nat → List (Option Value) → List (Nat × Value)
  | _, [] => []
  | k, none :: t => xps (k + 1) t
  | k, some v :: t => (k, v) :: xps (k + 1) t
theorem xps_mem : ∀ (L : List (Option Value)) (k : Nat) (q : Nat × Value), q ∈ xps k L ↔ k ≤ q.1 ∧ L[q.1 - k]? = some (some q.2)
  | [], k, q => by simp [xps]
  | none :: t, k, q => by
    rw [xps, xps_mem t (k + 1) q]
    constructor
    · rintro ⟨h1, h2⟩
      refine ⟨by omega, ?_⟩
      rw [show q.1 - k = (q.1 - (k + 1)) + 1 by omega]
      simpa using h2
    · rintro ⟨h1, h2⟩
      by_cases e : q.1 = k
      · rw [e, Nat.sub_self] at h2; simp at h2
      · refine ⟨by omega, ?_⟩
        rw [show q.1 - k = (q.1 - (k + 1)) + 1 by omega] at h2
        simpa using h2
  | some v :: t, k, q => by
    rw [xps, List.mem_cons, xps_mem t (k + 1) q]
    constructor
    · rintro (h | ⟨h1, h2⟩)
      · subst h; simp
      · refine ⟨by omega, ?_⟩
        rw [show q.1 - k = (q.1 - (k + 1)) + 1 by omega]
        simpa using h2
    · rintro ⟨h1, h2⟩
      by_cases e : q.1 = k
      · left
        rw [e, Nat.sub_self] at h2
        obtain ⟨a, b⟩ := q
        simp at h2 e
        rw [e, h2]
      · right
        refine ⟨by omega, ?_⟩
        rw [show q.1 - k = (q.1 - (k + 1)) + 1 by omega] at h2
        simpa using h2
theorem xL.has {ls : Array Slot} {nL : Nat} {L : List (Option Value)} (h : xL ls nL L) : lv_has ls nL (xps 0 L) := by
  refine ⟨h.1, h.2.1, fun q hq => ?_⟩
  have := (xps_mem L 0 q).mp hq
  exact h.2.2 _ _ (by simpa using this.2)
/-- no long stands just in front of place i -/
def xz (L : List (Option Value)) (i : Nat) : Bool := match i with
  | 0 => true
  | j + 1 => match L[j]? with
    | some (some w) => w.category != 2
    | _ => true
theorem xz_spec {L : List (Option Value)} {i : Nat} (h : xz L i = true) : ∀ (j : Nat) (w : Value), j + 1 = i → L[j]? = some (some w) → ¬ w.category = 2 := by
  intro j w hj hw
  subst hj
  simp only [xz, hw] at h
  simpa using h
theorem xL.st1 {ls' : Array Slot} {nL : Nat} {L : List (Option Value)} {i : Nat} {v : Value} (hz : xz L i = true) (h : lv_has ls' nL ((i, v) :: (xps 0 L).filter (fun q => !(q.1 == i) && !(q.1 + 1 == i && q.2.category == 2)))) : xL ls' nL (L.set i (some v)) := by
  refine ⟨h.1, h.2.1, fun j w hj => ?_⟩
  by_cases e : j = i
  · subst e
    have hl : j < L.length := by
      have := (List.getElem?_eq_some_iff.mp hj).1
      simpa using this
    rw [List.getElem?_set_self hl] at hj
    cases hj
    exact h.2.2 (j, v) (List.mem_cons_self)
  · rw [List.getElem?_set_ne (Ne.symm e)] at hj
    refine h.2.2 (j, w) (List.mem_cons_of_mem _ (List.mem_filter.mpr ⟨(xps_mem L 0 (j, w)).mpr ⟨Nat.zero_le _, by simpa using hj⟩, ?_⟩))
    have hw := xz_spec hz j w
    simp only [Bool.and_eq_true, Bool.not_eq_true', beq_eq_false_iff_ne, ne_eq, Bool.and_eq_false_iff]
    refine ⟨e, ?_⟩
    by_cases e2 : j + 1 = i
    · exact Or.inr (hw e2 hj)
    · exact Or.inl e2
theorem xL.st2 {ls' : Array Slot} {nL : Nat} {L : List (Option Value)} {i : Nat} {v : Value} (hz : xz L i = true) (h : lv_has ls' nL ((i, v) :: (xps 0 L).filter (fun q => !(q.1 == i) && (!(q.1 == i + 1) && !(q.1 + 1 == i && q.2.category == 2))))) : xL ls' nL ((L.set i (some v)).set (i + 1) none) := by
  refine ⟨h.1, h.2.1, fun j w hj => ?_⟩
  by_cases e1 : j = i + 1
  · subst e1
    rw [List.getElem?_set] at hj
    simp at hj
  rw [List.getElem?_set_ne (Ne.symm e1)] at hj
  by_cases e : j = i
  · subst e
    have hl : j < L.length := by
      have := (List.getElem?_eq_some_iff.mp hj).1
      simpa using this
    rw [List.getElem?_set_self hl] at hj
    cases hj
    exact h.2.2 (j, v) (List.mem_cons_self)
  · rw [List.getElem?_set_ne (Ne.symm e)] at hj
    refine h.2.2 (j, w) (List.mem_cons_of_mem _ (List.mem_filter.mpr ⟨(xps_mem L 0 (j, w)).mpr ⟨Nat.zero_le _, by simpa using hj⟩, ?_⟩))
    have hw := xz_spec hz j w
    simp only [Bool.and_eq_true, Bool.not_eq_true', beq_eq_false_iff_ne, ne_eq, Bool.and_eq_false_iff]
    refine ⟨e, e1, ?_⟩
    by_cases e2 : j + 1 = i
    · exact Or.inr (hw e2 hj)
    · exact Or.inl e2
section XL
variable {p : Program} {l : Launch} {e : Env} {R : Room} {s : State} {m : MethodId} {args : Array Value} {below : List Frame} {meth : Method} {c : Code} {Q : State → Prop} {G : xG} {nL : Nat} {cc : ByteArray} {own : String} {ret : Option FieldType} {hh : xH} {sz cells slots pc : Nat} {L : List (Option Value)} {rest : List Value}
/-- what holds all through a method's walk -/
def xC (p : Program) (s : State) (m : MethodId) (args : Array Value) (meth : Method) (c : Code) (G : xG) (nL : Nat) (cc : ByteArray) (own : String) (ret : Option FieldType) : Prop :=
  p.tables.exec = Jvm.exec ∧ c.code = cc ∧ c.maxLocals = nL ∧ s.vm.findClass own = some m.cls ∧ (∀ w ∈ xWs, w.before args s = true) ∧ xF G s ∧ meth.sig.returnType = ret ∧ meth.locks = false ∧ gB G ≤ s.heap.size
theorem xC.ts (hc : xC p s m args meth c G nL cc own ret) : ∀ w ∈ xWs, w.before args s = true := hc.2.2.2.2.1
theorem xC.F (hc : xC p s m args meth c G nL cc own ret) : xF G s := hc.2.2.2.2.2.1
theorem xC.ow (hc : xC p s m args meth c G nL cc own ret) : s.vm.findClass own = some m.cls := hc.2.2.2.1
theorem xC.K (hc : xC p s m args meth c G nL cc own ret) : va_K (gD G) xCl (xtys (gZ G)) s := hc.F.1
theorem xC.nw (hc : xC p s m args meth c G nL cc own ret) {w : Cond} (h : w ∈ xNw) : va_Nw w s := hc.F.2.1 w h
/-- THE JUDGEMENT: at pc, with locals L, the stack st, our heap hh, sz cells in all: the walk comes to Q -/
def xW (p : Program) (l : Launch) (e : Env) (R : Room) (s : State) (m : MethodId) (args : Array Value) (below : List Frame) (meth : Method) (c : Code) (G : xG) (nL : Nat) (Q : State → Prop) (hh : xH) (sz cells slots pc : Nat) (L : List (Option Value)) (st : List Value) : Prop :=
  ∀ (H : Heap) (locs : List Loc) (ls : Array Slot), xP G hh H → H.size = sz → va_S (xA G) s.heap H locs → xL ls nL L → W p l e R s m args below meth c H locs cells slots Q (F0 m pc ls st)
theorem x_iconst (hc : xC p s m args meth c G nL cc own ret) {n : Int} {v : Int32} (hdg : decode cc pc = .ok (.iconst n, 1)) (hv : Int32.ofInt n = v) (k : xW p l e R s m args below meth c G nL Q hh sz cells slots (pc + 1) L (.int v :: rest)) : xW p l e R s m args below meth c G nL Q hh sz cells slots pc L (rest) := fun H locs ls hP hz hS hL => lv_iconst hc.1 hc.2.1 hdg hv (k H locs ls hP hz hS hL)
theorem x_bipush (hc : xC p s m args meth c G nL cc own ret) {n : Int} {v : Int32} (hdg : decode cc pc = .ok (.bipush n, 2)) (hv : (Int8.ofInt n).toInt32 = v) (k : xW p l e R s m args below meth c G nL Q hh sz cells slots (pc + 2) L (.int v :: rest)) : xW p l e R s m args below meth c G nL Q hh sz cells slots pc L (rest) := fun H locs ls hP hz hS hL => lv_bipush hc.1 hc.2.1 hdg hv (k H locs ls hP hz hS hL)
theorem x_sipush (hc : xC p s m args meth c G nL cc own ret) {n : Int} {v : Int32} (hdg : decode cc pc = .ok (.sipush n, 3)) (hv : (Int16.ofInt n).toInt32 = v) (k : xW p l e R s m args below meth c G nL Q hh sz cells slots (pc + 3) L (.int v :: rest)) : xW p l e R s m args below meth c G nL Q hh sz cells slots pc L (rest) := fun H locs ls hP hz hS hL => lv_sipush hc.1 hc.2.1 hdg hv (k H locs ls hP hz hS hL)
theorem x_lconst (hc : xC p s m args meth c G nL cc own ret) {n : Fin 2} {v : Int64} (hdg : decode cc pc = .ok (.lconst n, 1)) (hv : Int64.ofNat (n : Nat) = v) (k : xW p l e R s m args below meth c G nL Q hh sz cells slots (pc + 1) L (.long v :: rest)) : xW p l e R s m args below meth c G nL Q hh sz cells slots pc L (rest) := fun H locs ls hP hz hS hL => lv_lconst hc.1 hc.2.1 hdg hv (k H locs ls hP hz hS hL)
theorem x_iload_n (hc : xC p s m args meth c G nL cc own ret) {k : Fin 4} {i : Nat} {x : Int32} (hdg : decode cc pc = .ok (.iload_n k, 1)) (hi : (k : Nat) = i) (hl : L[i]? = some (some (.int x))) (k : xW p l e R s m args below meth c G nL Q hh sz cells slots (pc + 1) L (.int x :: rest)) : xW p l e R s m args below meth c G nL Q hh sz cells slots pc L (rest) := fun H locs ls hP hz hS hL => lv_iload_n hc.1 hc.2.1 hdg hi (hL.2.2 _ _ hl) (k H locs ls hP hz hS hL)
theorem x_iload (hc : xC p s m args meth c G nL cc own ret) {i : Nat} {x : Int32} (hdg : decode cc pc = .ok (.iload i, 2)) (hl : L[i]? = some (some (.int x))) (k : xW p l e R s m args below meth c G nL Q hh sz cells slots (pc + 2) L (.int x :: rest)) : xW p l e R s m args below meth c G nL Q hh sz cells slots pc L (rest) := fun H locs ls hP hz hS hL => lv_iload hc.1 hc.2.1 hdg (hL.2.2 _ _ hl) (k H locs ls hP hz hS hL)
theorem x_lload_n (hc : xC p s m args meth c G nL cc own ret) {k : Fin 4} {i : Nat} {x : Int64} (hdg : decode cc pc = .ok (.lload_n k, 1)) (hi : (k : Nat) = i) (hl : L[i]? = some (some (.long x))) (k : xW p l e R s m args below meth c G nL Q hh sz cells slots (pc + 1) L (.long x :: rest)) : xW p l e R s m args below meth c G nL Q hh sz cells slots pc L (rest) := fun H locs ls hP hz hS hL => lv_lload_n hc.1 hc.2.1 hdg hi (hL.2.2 _ _ hl) (k H locs ls hP hz hS hL)
theorem x_lload (hc : xC p s m args meth c G nL cc own ret) {i : Nat} {x : Int64} (hdg : decode cc pc = .ok (.lload i, 2)) (hl : L[i]? = some (some (.long x))) (k : xW p l e R s m args below meth c G nL Q hh sz cells slots (pc + 2) L (.long x :: rest)) : xW p l e R s m args below meth c G nL Q hh sz cells slots pc L (rest) := fun H locs ls hP hz hS hL => lv_lload hc.1 hc.2.1 hdg (hL.2.2 _ _ hl) (k H locs ls hP hz hS hL)
theorem x_aload_n (hc : xC p s m args meth c G nL cc own ret) {k : Fin 4} {i : Nat} {x : Nat} (hdg : decode cc pc = .ok (.aload_n k, 1)) (hi : (k : Nat) = i) (hl : L[i]? = some (some (.ref x))) (k : xW p l e R s m args below meth c G nL Q hh sz cells slots (pc + 1) L (.ref x :: rest)) : xW p l e R s m args below meth c G nL Q hh sz cells slots pc L (rest) := fun H locs ls hP hz hS hL => lv_aload_n hc.1 hc.2.1 hdg hi (hL.2.2 _ _ hl) (k H locs ls hP hz hS hL)
theorem x_aload (hc : xC p s m args meth c G nL cc own ret) {i : Nat} {x : Nat} (hdg : decode cc pc = .ok (.aload i, 2)) (hl : L[i]? = some (some (.ref x))) (k : xW p l e R s m args below meth c G nL Q hh sz cells slots (pc + 2) L (.ref x :: rest)) : xW p l e R s m args below meth c G nL Q hh sz cells slots pc L (rest) := fun H locs ls hP hz hS hL => lv_aload hc.1 hc.2.1 hdg (hL.2.2 _ _ hl) (k H locs ls hP hz hS hL)
theorem x_iadd (hc : xC p s m args meth c G nL cc own ret) {x y : Int32} (hdg : decode cc pc = .ok (.iadd, 1)) (k : xW p l e R s m args below meth c G nL Q hh sz cells slots (pc + 1) L (.int (x + y) :: rest)) : xW p l e R s m args below meth c G nL Q hh sz cells slots pc L (.int y :: .int x :: rest) := fun H locs ls hP hz hS hL => lv_iadd hc.1 hc.2.1 hdg (k H locs ls hP hz hS hL)
theorem x_isub (hc : xC p s m args meth c G nL cc own ret) {x y : Int32} (hdg : decode cc pc = .ok (.isub, 1)) (k : xW p l e R s m args below meth c G nL Q hh sz cells slots (pc + 1) L (.int (x - y) :: rest)) : xW p l e R s m args below meth c G nL Q hh sz cells slots pc L (.int y :: .int x :: rest) := fun H locs ls hP hz hS hL => lv_isub hc.1 hc.2.1 hdg (k H locs ls hP hz hS hL)
theorem x_imul (hc : xC p s m args meth c G nL cc own ret) {x y : Int32} (hdg : decode cc pc = .ok (.imul, 1)) (k : xW p l e R s m args below meth c G nL Q hh sz cells slots (pc + 1) L (.int (x * y) :: rest)) : xW p l e R s m args below meth c G nL Q hh sz cells slots pc L (.int y :: .int x :: rest) := fun H locs ls hP hz hS hL => lv_imul hc.1 hc.2.1 hdg (k H locs ls hP hz hS hL)
theorem x_iand (hc : xC p s m args meth c G nL cc own ret) {x y : Int32} (hdg : decode cc pc = .ok (.iand, 1)) (k : xW p l e R s m args below meth c G nL Q hh sz cells slots (pc + 1) L (.int (x &&& y) :: rest)) : xW p l e R s m args below meth c G nL Q hh sz cells slots pc L (.int y :: .int x :: rest) := fun H locs ls hP hz hS hL => lv_iand hc.1 hc.2.1 hdg (k H locs ls hP hz hS hL)
theorem x_ior (hc : xC p s m args meth c G nL cc own ret) {x y : Int32} (hdg : decode cc pc = .ok (.ior, 1)) (k : xW p l e R s m args below meth c G nL Q hh sz cells slots (pc + 1) L (.int (x ||| y) :: rest)) : xW p l e R s m args below meth c G nL Q hh sz cells slots pc L (.int y :: .int x :: rest) := fun H locs ls hP hz hS hL => lv_ior hc.1 hc.2.1 hdg (k H locs ls hP hz hS hL)
theorem x_ixor (hc : xC p s m args meth c G nL cc own ret) {x y : Int32} (hdg : decode cc pc = .ok (.ixor, 1)) (k : xW p l e R s m args below meth c G nL Q hh sz cells slots (pc + 1) L (.int (x ^^^ y) :: rest)) : xW p l e R s m args below meth c G nL Q hh sz cells slots pc L (.int y :: .int x :: rest) := fun H locs ls hP hz hS hL => lv_ixor hc.1 hc.2.1 hdg (k H locs ls hP hz hS hL)
theorem x_idiv (hc : xC p s m args meth c G nL cc own ret) {x y : Int32} (hdg : decode cc pc = .ok (.idiv, 1)) (hne : ¬ y = 0) (k : xW p l e R s m args below meth c G nL Q hh sz cells slots (pc + 1) L (.int (x / y) :: rest)) : xW p l e R s m args below meth c G nL Q hh sz cells slots pc L (.int y :: .int x :: rest) := fun H locs ls hP hz hS hL => lv_idiv hc.1 hc.2.1 hdg hne (k H locs ls hP hz hS hL)
theorem x_irem (hc : xC p s m args meth c G nL cc own ret) {x y : Int32} (hdg : decode cc pc = .ok (.irem, 1)) (hne : ¬ y = 0) (k : xW p l e R s m args below meth c G nL Q hh sz cells slots (pc + 1) L (.int (x - x / y * y) :: rest)) : xW p l e R s m args below meth c G nL Q hh sz cells slots pc L (.int y :: .int x :: rest) := fun H locs ls hP hz hS hL => lv_irem hc.1 hc.2.1 hdg hne (k H locs ls hP hz hS hL)
theorem x_ineg (hc : xC p s m args meth c G nL cc own ret) {x : Int32} (hdg : decode cc pc = .ok (.ineg, 1)) (k : xW p l e R s m args below meth c G nL Q hh sz cells slots (pc + 1) L (.int (-x) :: rest)) : xW p l e R s m args below meth c G nL Q hh sz cells slots pc L (.int x :: rest) := fun H locs ls hP hz hS hL => lv_ineg hc.1 hc.2.1 hdg (k H locs ls hP hz hS hL)
theorem x_ladd (hc : xC p s m args meth c G nL cc own ret) {x y : Int64} (hdg : decode cc pc = .ok (.ladd, 1)) (k : xW p l e R s m args below meth c G nL Q hh sz cells slots (pc + 1) L (.long (x + y) :: rest)) : xW p l e R s m args below meth c G nL Q hh sz cells slots pc L (.long y :: .long x :: rest) := fun H locs ls hP hz hS hL => lv_ladd hc.1 hc.2.1 hdg (k H locs ls hP hz hS hL)
theorem x_lsub (hc : xC p s m args meth c G nL cc own ret) {x y : Int64} (hdg : decode cc pc = .ok (.lsub, 1)) (k : xW p l e R s m args below meth c G nL Q hh sz cells slots (pc + 1) L (.long (x - y) :: rest)) : xW p l e R s m args below meth c G nL Q hh sz cells slots pc L (.long y :: .long x :: rest) := fun H locs ls hP hz hS hL => lv_lsub hc.1 hc.2.1 hdg (k H locs ls hP hz hS hL)
theorem x_lmul (hc : xC p s m args meth c G nL cc own ret) {x y : Int64} (hdg : decode cc pc = .ok (.lmul, 1)) (k : xW p l e R s m args below meth c G nL Q hh sz cells slots (pc + 1) L (.long (x * y) :: rest)) : xW p l e R s m args below meth c G nL Q hh sz cells slots pc L (.long y :: .long x :: rest) := fun H locs ls hP hz hS hL => lv_lmul hc.1 hc.2.1 hdg (k H locs ls hP hz hS hL)
theorem x_land (hc : xC p s m args meth c G nL cc own ret) {x y : Int64} (hdg : decode cc pc = .ok (.land, 1)) (k : xW p l e R s m args below meth c G nL Q hh sz cells slots (pc + 1) L (.long (x &&& y) :: rest)) : xW p l e R s m args below meth c G nL Q hh sz cells slots pc L (.long y :: .long x :: rest) := fun H locs ls hP hz hS hL => lv_land hc.1 hc.2.1 hdg (k H locs ls hP hz hS hL)
theorem x_lor (hc : xC p s m args meth c G nL cc own ret) {x y : Int64} (hdg : decode cc pc = .ok (.lor, 1)) (k : xW p l e R s m args below meth c G nL Q hh sz cells slots (pc + 1) L (.long (x ||| y) :: rest)) : xW p l e R s m args below meth c G nL Q hh sz cells slots pc L (.long y :: .long x :: rest) := fun H locs ls hP hz hS hL => lv_lor hc.1 hc.2.1 hdg (k H locs ls hP hz hS hL)
theorem x_lxor (hc : xC p s m args meth c G nL cc own ret) {x y : Int64} (hdg : decode cc pc = .ok (.lxor, 1)) (k : xW p l e R s m args below meth c G nL Q hh sz cells slots (pc + 1) L (.long (x ^^^ y) :: rest)) : xW p l e R s m args below meth c G nL Q hh sz cells slots pc L (.long y :: .long x :: rest) := fun H locs ls hP hz hS hL => lv_lxor hc.1 hc.2.1 hdg (k H locs ls hP hz hS hL)
theorem x_ishl (hc : xC p s m args meth c G nL cc own ret) {x y : Int32} (hdg : decode cc pc = .ok (.ishl, 1)) (k : xW p l e R s m args below meth c G nL Q hh sz cells slots (pc + 1) L (.int (x <<< (y &&& 31)) :: rest)) : xW p l e R s m args below meth c G nL Q hh sz cells slots pc L (.int y :: .int x :: rest) := fun H locs ls hP hz hS hL => lv_ishl hc.1 hc.2.1 hdg (k H locs ls hP hz hS hL)
theorem x_ishr (hc : xC p s m args meth c G nL cc own ret) {x y : Int32} (hdg : decode cc pc = .ok (.ishr, 1)) (k : xW p l e R s m args below meth c G nL Q hh sz cells slots (pc + 1) L (.int (x >>> (y &&& 31)) :: rest)) : xW p l e R s m args below meth c G nL Q hh sz cells slots pc L (.int y :: .int x :: rest) := fun H locs ls hP hz hS hL => lv_ishr hc.1 hc.2.1 hdg (k H locs ls hP hz hS hL)
theorem x_i2l (hc : xC p s m args meth c G nL cc own ret) {x : Int32} {v : Int64} (hdg : decode cc pc = .ok (.i2l, 1)) (hv : x.toInt64 = v) (k : xW p l e R s m args below meth c G nL Q hh sz cells slots (pc + 1) L (.long v :: rest)) : xW p l e R s m args below meth c G nL Q hh sz cells slots pc L (.int x :: rest) := fun H locs ls hP hz hS hL => lv_i2l hc.1 hc.2.1 hdg hv (k H locs ls hP hz hS hL)
theorem x_l2i (hc : xC p s m args meth c G nL cc own ret) {x : Int64} {v : Int32} (hdg : decode cc pc = .ok (.l2i, 1)) (hv : x.toInt32 = v) (k : xW p l e R s m args below meth c G nL Q hh sz cells slots (pc + 1) L (.int v :: rest)) : xW p l e R s m args below meth c G nL Q hh sz cells slots pc L (.long x :: rest) := fun H locs ls hP hz hS hL => lv_l2i hc.1 hc.2.1 hdg hv (k H locs ls hP hz hS hL)
theorem x_i2b (hc : xC p s m args meth c G nL cc own ret) {x : Int32} {v : Int32} (hdg : decode cc pc = .ok (.i2b, 1)) (hv : x.toInt8.toInt32 = v) (k : xW p l e R s m args below meth c G nL Q hh sz cells slots (pc + 1) L (.int v :: rest)) : xW p l e R s m args below meth c G nL Q hh sz cells slots pc L (.int x :: rest) := fun H locs ls hP hz hS hL => lv_i2b hc.1 hc.2.1 hdg hv (k H locs ls hP hz hS hL)
theorem x_i2s (hc : xC p s m args meth c G nL cc own ret) {x : Int32} {v : Int32} (hdg : decode cc pc = .ok (.i2s, 1)) (hv : x.toInt16.toInt32 = v) (k : xW p l e R s m args below meth c G nL Q hh sz cells slots (pc + 1) L (.int v :: rest)) : xW p l e R s m args below meth c G nL Q hh sz cells slots pc L (.int x :: rest) := fun H locs ls hP hz hS hL => lv_i2s hc.1 hc.2.1 hdg hv (k H locs ls hP hz hS hL)
theorem x_i2c (hc : xC p s m args meth c G nL cc own ret) {x : Int32} {v : Int32} (hdg : decode cc pc = .ok (.i2c, 1)) (hv : (x.toUInt32 % 65536).toInt32 = v) (k : xW p l e R s m args below meth c G nL Q hh sz cells slots (pc + 1) L (.int v :: rest)) : xW p l e R s m args below meth c G nL Q hh sz cells slots pc L (.int x :: rest) := fun H locs ls hP hz hS hL => lv_i2c hc.1 hc.2.1 hdg hv (k H locs ls hP hz hS hL)
theorem x_iushr (hc : xC p s m args meth c G nL cc own ret) {x y v : Int32} (hdg : decode cc pc = .ok (.iushr, 1)) (hv : (x.toUInt32 >>> (y.toUInt32 &&& Int32.toUInt32 31)).toInt32 = v) (k : xW p l e R s m args below meth c G nL Q hh sz cells slots (pc + 1) L (.int v :: rest)) : xW p l e R s m args below meth c G nL Q hh sz cells slots pc L (.int y :: .int x :: rest) := fun H locs ls hP hz hS hL => lv_iushr hc.1 hc.2.1 hdg hv (k H locs ls hP hz hS hL)
theorem x_lushr (hc : xC p s m args meth c G nL cc own ret) {x v : Int64} {y : Int32} (hdg : decode cc pc = .ok (.lushr, 1)) (hv : (x.toUInt64 >>> (y.toInt64.toUInt64 &&& Int64.toUInt64 63)).toInt64 = v) (k : xW p l e R s m args below meth c G nL Q hh sz cells slots (pc + 1) L (.long v :: rest)) : xW p l e R s m args below meth c G nL Q hh sz cells slots pc L (.int y :: .long x :: rest) := fun H locs ls hP hz hS hL => lv_lushr hc.1 hc.2.1 hdg hv (k H locs ls hP hz hS hL)
theorem x_lshl (hc : xC p s m args meth c G nL cc own ret) {x v : Int64} {y : Int32} (hdg : decode cc pc = .ok (.lshl, 1)) (hv : x <<< (y.toInt64 &&& 63) = v) (k : xW p l e R s m args below meth c G nL Q hh sz cells slots (pc + 1) L (.long v :: rest)) : xW p l e R s m args below meth c G nL Q hh sz cells slots pc L (.int y :: .long x :: rest) := fun H locs ls hP hz hS hL => lv_lshl hc.1 hc.2.1 hdg hv (k H locs ls hP hz hS hL)
theorem x_lshr (hc : xC p s m args meth c G nL cc own ret) {x v : Int64} {y : Int32} (hdg : decode cc pc = .ok (.lshr, 1)) (hv : x >>> (y.toInt64 &&& 63) = v) (k : xW p l e R s m args below meth c G nL Q hh sz cells slots (pc + 1) L (.long v :: rest)) : xW p l e R s m args below meth c G nL Q hh sz cells slots pc L (.int y :: .long x :: rest) := fun H locs ls hP hz hS hL => lv_lshr hc.1 hc.2.1 hdg hv (k H locs ls hP hz hS hL)
theorem x_dup (hc : xC p s m args meth c G nL cc own ret) {va : Value} (hdg : decode cc pc = .ok (.dup, 1)) (hva : va.category = 1) (k : xW p l e R s m args below meth c G nL Q hh sz cells slots (pc + 1) L (va :: va :: rest)) : xW p l e R s m args below meth c G nL Q hh sz cells slots pc L (va :: rest) := fun H locs ls hP hz hS hL => lv_dup hc.1 hc.2.1 hdg hva (k H locs ls hP hz hS hL)
theorem x_pop (hc : xC p s m args meth c G nL cc own ret) {va : Value} (hdg : decode cc pc = .ok (.pop, 1)) (hva : va.category = 1) (k : xW p l e R s m args below meth c G nL Q hh sz cells slots (pc + 1) L (rest)) : xW p l e R s m args below meth c G nL Q hh sz cells slots pc L (va :: rest) := fun H locs ls hP hz hS hL => lv_pop hc.1 hc.2.1 hdg hva (k H locs ls hP hz hS hL)
theorem x_dup_x1 (hc : xC p s m args meth c G nL cc own ret) {va vb : Value} (hdg : decode cc pc = .ok (.dup_x1, 1)) (hva : va.category = 1) (hvb : vb.category = 1) (k : xW p l e R s m args below meth c G nL Q hh sz cells slots (pc + 1) L (va :: vb :: va :: rest)) : xW p l e R s m args below meth c G nL Q hh sz cells slots pc L (va :: vb :: rest) := fun H locs ls hP hz hS hL => lv_dup_x1 hc.1 hc.2.1 hdg hva hvb (k H locs ls hP hz hS hL)
theorem x_dup_x2 (hc : xC p s m args meth c G nL cc own ret) {va vb vd : Value} (hdg : decode cc pc = .ok (.dup_x2, 1)) (hva : va.category = 1) (hvb : vb.category = 1) (hvd : vd.category = 1) (k : xW p l e R s m args below meth c G nL Q hh sz cells slots (pc + 1) L (va :: vb :: vd :: va :: rest)) : xW p l e R s m args below meth c G nL Q hh sz cells slots pc L (va :: vb :: vd :: rest) := fun H locs ls hP hz hS hL => lv_dup_x2 hc.1 hc.2.1 hdg hva hvb hvd (k H locs ls hP hz hS hL)
theorem x_dup2_11 (hc : xC p s m args meth c G nL cc own ret) {va vb : Value} (hdg : decode cc pc = .ok (.dup2, 1)) (hva : va.category = 1) (hvb : vb.category = 1) (k : xW p l e R s m args below meth c G nL Q hh sz cells slots (pc + 1) L (va :: vb :: va :: vb :: rest)) : xW p l e R s m args below meth c G nL Q hh sz cells slots pc L (va :: vb :: rest) := fun H locs ls hP hz hS hL => lv_dup2_11 hc.1 hc.2.1 hdg hva hvb (k H locs ls hP hz hS hL)
theorem x_dup2_2 (hc : xC p s m args meth c G nL cc own ret) {va : Value} (hdg : decode cc pc = .ok (.dup2, 1)) (hva : va.category = 2) (k : xW p l e R s m args below meth c G nL Q hh sz cells slots (pc + 1) L (va :: va :: rest)) : xW p l e R s m args below meth c G nL Q hh sz cells slots pc L (va :: rest) := fun H locs ls hP hz hS hL => lv_dup2_2 hc.1 hc.2.1 hdg hva (k H locs ls hP hz hS hL)
theorem x_pop2_2 (hc : xC p s m args meth c G nL cc own ret) {va : Value} (hdg : decode cc pc = .ok (.pop2, 1)) (hva : va.category = 2) (k : xW p l e R s m args below meth c G nL Q hh sz cells slots (pc + 1) L (rest)) : xW p l e R s m args below meth c G nL Q hh sz cells slots pc L (va :: rest) := fun H locs ls hP hz hS hL => lv_pop2_2 hc.1 hc.2.1 hdg hva (k H locs ls hP hz hS hL)
theorem x_pop2_11 (hc : xC p s m args meth c G nL cc own ret) {va vb : Value} (hdg : decode cc pc = .ok (.pop2, 1)) (hva : va.category = 1) (hvb : vb.category = 1) (k : xW p l e R s m args below meth c G nL Q hh sz cells slots (pc + 1) L (rest)) : xW p l e R s m args below meth c G nL Q hh sz cells slots pc L (va :: vb :: rest) := fun H locs ls hP hz hS hL => lv_pop2_11 hc.1 hc.2.1 hdg hva hvb (k H locs ls hP hz hS hL)
theorem x_if_eq (hc : xC p s m args meth c G nL cc own ret) {x : Int32} {off : Int} {tgt : Nat} (hdg : decode cc pc = .ok (.ifCond .eq off, 3)) (ht : (pc : Int) + off = (tgt : Int)) (kt : x = 0 → xW p l e R s m args below meth c G nL Q hh sz cells slots tgt L rest) (kf : ¬ x = 0 → xW p l e R s m args below meth c G nL Q hh sz cells slots (pc + 3) L rest) : xW p l e R s m args below meth c G nL Q hh sz cells slots pc L (.int x :: rest) := fun H locs ls hP hz hS hL => lv_if_eq hc.1 hc.2.1 hdg ht (fun q9 => kt q9 H locs ls hP hz hS hL) (fun q9 => kf q9 H locs ls hP hz hS hL)
theorem x_icmp_eq (hc : xC p s m args meth c G nL cc own ret) {x y : Int32} {off : Int} {tgt : Nat} (hdg : decode cc pc = .ok (.if_icmp .eq off, 3)) (ht : (pc : Int) + off = (tgt : Int)) (kt : x = y → xW p l e R s m args below meth c G nL Q hh sz cells slots tgt L rest) (kf : ¬ x = y → xW p l e R s m args below meth c G nL Q hh sz cells slots (pc + 3) L rest) : xW p l e R s m args below meth c G nL Q hh sz cells slots pc L (.int y :: .int x :: rest) := fun H locs ls hP hz hS hL => lv_icmp_eq hc.1 hc.2.1 hdg ht (fun q9 => kt q9 H locs ls hP hz hS hL) (fun q9 => kf q9 H locs ls hP hz hS hL)
theorem x_if_ne (hc : xC p s m args meth c G nL cc own ret) {x : Int32} {off : Int} {tgt : Nat} (hdg : decode cc pc = .ok (.ifCond .ne off, 3)) (ht : (pc : Int) + off = (tgt : Int)) (kt : ¬ x = 0 → xW p l e R s m args below meth c G nL Q hh sz cells slots tgt L rest) (kf : x = 0 → xW p l e R s m args below meth c G nL Q hh sz cells slots (pc + 3) L rest) : xW p l e R s m args below meth c G nL Q hh sz cells slots pc L (.int x :: rest) := fun H locs ls hP hz hS hL => lv_if_ne hc.1 hc.2.1 hdg ht (fun q9 => kt q9 H locs ls hP hz hS hL) (fun q9 => kf q9 H locs ls hP hz hS hL)
theorem x_icmp_ne (hc : xC p s m args meth c G nL cc own ret) {x y : Int32} {off : Int} {tgt : Nat} (hdg : decode cc pc = .ok (.if_icmp .ne off, 3)) (ht : (pc : Int) + off = (tgt : Int)) (kt : ¬ x = y → xW p l e R s m args below meth c G nL Q hh sz cells slots tgt L rest) (kf : x = y → xW p l e R s m args below meth c G nL Q hh sz cells slots (pc + 3) L rest) : xW p l e R s m args below meth c G nL Q hh sz cells slots pc L (.int y :: .int x :: rest) := fun H locs ls hP hz hS hL => lv_icmp_ne hc.1 hc.2.1 hdg ht (fun q9 => kt q9 H locs ls hP hz hS hL) (fun q9 => kf q9 H locs ls hP hz hS hL)
theorem x_if_lt (hc : xC p s m args meth c G nL cc own ret) {x : Int32} {off : Int} {tgt : Nat} (hdg : decode cc pc = .ok (.ifCond .lt off, 3)) (ht : (pc : Int) + off = (tgt : Int)) (kt : x < 0 → xW p l e R s m args below meth c G nL Q hh sz cells slots tgt L rest) (kf : ¬ x < 0 → xW p l e R s m args below meth c G nL Q hh sz cells slots (pc + 3) L rest) : xW p l e R s m args below meth c G nL Q hh sz cells slots pc L (.int x :: rest) := fun H locs ls hP hz hS hL => lv_if_lt hc.1 hc.2.1 hdg ht (fun q9 => kt q9 H locs ls hP hz hS hL) (fun q9 => kf q9 H locs ls hP hz hS hL)
theorem x_icmp_lt (hc : xC p s m args meth c G nL cc own ret) {x y : Int32} {off : Int} {tgt : Nat} (hdg : decode cc pc = .ok (.if_icmp .lt off, 3)) (ht : (pc : Int) + off = (tgt : Int)) (kt : x < y → xW p l e R s m args below meth c G nL Q hh sz cells slots tgt L rest) (kf : ¬ x < y → xW p l e R s m args below meth c G nL Q hh sz cells slots (pc + 3) L rest) : xW p l e R s m args below meth c G nL Q hh sz cells slots pc L (.int y :: .int x :: rest) := fun H locs ls hP hz hS hL => lv_icmp_lt hc.1 hc.2.1 hdg ht (fun q9 => kt q9 H locs ls hP hz hS hL) (fun q9 => kf q9 H locs ls hP hz hS hL)
theorem x_if_ge (hc : xC p s m args meth c G nL cc own ret) {x : Int32} {off : Int} {tgt : Nat} (hdg : decode cc pc = .ok (.ifCond .ge off, 3)) (ht : (pc : Int) + off = (tgt : Int)) (kt : 0 ≤ x → xW p l e R s m args below meth c G nL Q hh sz cells slots tgt L rest) (kf : ¬ 0 ≤ x → xW p l e R s m args below meth c G nL Q hh sz cells slots (pc + 3) L rest) : xW p l e R s m args below meth c G nL Q hh sz cells slots pc L (.int x :: rest) := fun H locs ls hP hz hS hL => lv_if_ge hc.1 hc.2.1 hdg ht (fun q9 => kt q9 H locs ls hP hz hS hL) (fun q9 => kf q9 H locs ls hP hz hS hL)
theorem x_icmp_ge (hc : xC p s m args meth c G nL cc own ret) {x y : Int32} {off : Int} {tgt : Nat} (hdg : decode cc pc = .ok (.if_icmp .ge off, 3)) (ht : (pc : Int) + off = (tgt : Int)) (kt : y ≤ x → xW p l e R s m args below meth c G nL Q hh sz cells slots tgt L rest) (kf : ¬ y ≤ x → xW p l e R s m args below meth c G nL Q hh sz cells slots (pc + 3) L rest) : xW p l e R s m args below meth c G nL Q hh sz cells slots pc L (.int y :: .int x :: rest) := fun H locs ls hP hz hS hL => lv_icmp_ge hc.1 hc.2.1 hdg ht (fun q9 => kt q9 H locs ls hP hz hS hL) (fun q9 => kf q9 H locs ls hP hz hS hL)
theorem x_if_gt (hc : xC p s m args meth c G nL cc own ret) {x : Int32} {off : Int} {tgt : Nat} (hdg : decode cc pc = .ok (.ifCond .gt off, 3)) (ht : (pc : Int) + off = (tgt : Int)) (kt : 0 < x → xW p l e R s m args below meth c G nL Q hh sz cells slots tgt L rest) (kf : ¬ 0 < x → xW p l e R s m args below meth c G nL Q hh sz cells slots (pc + 3) L rest) : xW p l e R s m args below meth c G nL Q hh sz cells slots pc L (.int x :: rest) := fun H locs ls hP hz hS hL => lv_if_gt hc.1 hc.2.1 hdg ht (fun q9 => kt q9 H locs ls hP hz hS hL) (fun q9 => kf q9 H locs ls hP hz hS hL)
theorem x_icmp_gt (hc : xC p s m args meth c G nL cc own ret) {x y : Int32} {off : Int} {tgt : Nat} (hdg : decode cc pc = .ok (.if_icmp .gt off, 3)) (ht : (pc : Int) + off = (tgt : Int)) (kt : y < x → xW p l e R s m args below meth c G nL Q hh sz cells slots tgt L rest) (kf : ¬ y < x → xW p l e R s m args below meth c G nL Q hh sz cells slots (pc + 3) L rest) : xW p l e R s m args below meth c G nL Q hh sz cells slots pc L (.int y :: .int x :: rest) := fun H locs ls hP hz hS hL => lv_icmp_gt hc.1 hc.2.1 hdg ht (fun q9 => kt q9 H locs ls hP hz hS hL) (fun q9 => kf q9 H locs ls hP hz hS hL)
theorem x_if_le (hc : xC p s m args meth c G nL cc own ret) {x : Int32} {off : Int} {tgt : Nat} (hdg : decode cc pc = .ok (.ifCond .le off, 3)) (ht : (pc : Int) + off = (tgt : Int)) (kt : x ≤ 0 → xW p l e R s m args below meth c G nL Q hh sz cells slots tgt L rest) (kf : ¬ x ≤ 0 → xW p l e R s m args below meth c G nL Q hh sz cells slots (pc + 3) L rest) : xW p l e R s m args below meth c G nL Q hh sz cells slots pc L (.int x :: rest) := fun H locs ls hP hz hS hL => lv_if_le hc.1 hc.2.1 hdg ht (fun q9 => kt q9 H locs ls hP hz hS hL) (fun q9 => kf q9 H locs ls hP hz hS hL)
theorem x_icmp_le (hc : xC p s m args meth c G nL cc own ret) {x y : Int32} {off : Int} {tgt : Nat} (hdg : decode cc pc = .ok (.if_icmp .le off, 3)) (ht : (pc : Int) + off = (tgt : Int)) (kt : x ≤ y → xW p l e R s m args below meth c G nL Q hh sz cells slots tgt L rest) (kf : ¬ x ≤ y → xW p l e R s m args below meth c G nL Q hh sz cells slots (pc + 3) L rest) : xW p l e R s m args below meth c G nL Q hh sz cells slots pc L (.int y :: .int x :: rest) := fun H locs ls hP hz hS hL => lv_icmp_le hc.1 hc.2.1 hdg ht (fun q9 => kt q9 H locs ls hP hz hS hL) (fun q9 => kf q9 H locs ls hP hz hS hL)
theorem x_goto (hc : xC p s m args meth c G nL cc own ret) {off : Int} {tgt : Nat} (hdg : decode cc pc = .ok (.goto off, 3)) (ht : (pc : Int) + off = (tgt : Int)) (k : xW p l e R s m args below meth c G nL Q hh sz cells slots tgt L rest) : xW p l e R s m args below meth c G nL Q hh sz cells slots pc L rest := fun H locs ls hP hz hS hL => lv_goto hc.1 hc.2.1 hdg ht (k H locs ls hP hz hS hL)
theorem x_tableIn (hc : xC p s m args meth c G nL cc own ret) {dflt lo hi : Int} {offs : Array Int} {len : Nat} {x : Int32} {off : Int} {tgt : Nat} (hdg : decode cc pc = .ok (.tableswitch dflt lo hi offs, len)) (h1 : ¬ x.toInt < lo) (h2 : ¬ hi < x.toInt) (ho : offs[(x.toInt - lo).toNat]? = some off) (ht : (pc : Int) + off = (tgt : Int)) (k : xW p l e R s m args below meth c G nL Q hh sz cells slots tgt L rest) : xW p l e R s m args below meth c G nL Q hh sz cells slots pc L (.int x :: rest) := fun H locs ls hP hz hS hL => lv_tableIn hc.1 hc.2.1 hdg h1 h2 ho ht (k H locs ls hP hz hS hL)
theorem x_tableOut (hc : xC p s m args meth c G nL cc own ret) {dflt lo hi : Int} {offs : Array Int} {len : Nat} {x : Int32} {tgt : Nat} (hdg : decode cc pc = .ok (.tableswitch dflt lo hi offs, len)) (h : x.toInt < lo ∨ hi < x.toInt) (ht : (pc : Int) + dflt = (tgt : Int)) (k : xW p l e R s m args below meth c G nL Q hh sz cells slots tgt L rest) : xW p l e R s m args below meth c G nL Q hh sz cells slots pc L (.int x :: rest) := fun H locs ls hP hz hS hL => lv_tableOut hc.1 hc.2.1 hdg h ht (k H locs ls hP hz hS hL)
theorem x_lookup (hc : xC p s m args meth c G nL cc own ret) {dflt : Int} {ps : Array (Int × Int)} {len : Nat} {x : Int32} {off : Int} {tgt : Nat} (hdg : decode cc pc = .ok (.lookupswitch dflt ps, len)) (hp : (ps.toList.zip (ps.toList.drop 1)).all (fun (a, next) => a.1 < next.1) = true) (ho : Op.lookupswitch.offset ps.toList dflt x.toInt = off) (ht : (pc : Int) + off = (tgt : Int)) (k : xW p l e R s m args below meth c G nL Q hh sz cells slots tgt L rest) : xW p l e R s m args below meth c G nL Q hh sz cells slots pc L (.int x :: rest) := fun H locs ls hP hz hS hL => lv_lookup hc.1 hc.2.1 hdg hp ho ht (k H locs ls hP hz hS hL)
theorem x_acmp_eq (hc : xC p s m args meth c G nL cc own ret) {rx ry : Option Nat} {off : Int} {tgt : Nat} (hdg : decode cc pc = .ok (.if_acmp .eq off, 3)) (ht : (pc : Int) + off = (tgt : Int)) (kt : rx = ry → xW p l e R s m args below meth c G nL Q hh sz cells slots tgt L rest) (kf : ¬ rx = ry → xW p l e R s m args below meth c G nL Q hh sz cells slots (pc + 3) L rest) : xW p l e R s m args below meth c G nL Q hh sz cells slots pc L (va_rf ry :: va_rf rx :: rest) := fun H locs ls hP hz hS hL => lv_acmp_eq hc.1 hc.2.1 hdg ht (fun q9 => kt q9 H locs ls hP hz hS hL) (fun q9 => kf q9 H locs ls hP hz hS hL)
theorem x_acmp_ne (hc : xC p s m args meth c G nL cc own ret) {rx ry : Option Nat} {off : Int} {tgt : Nat} (hdg : decode cc pc = .ok (.if_acmp .ne off, 3)) (ht : (pc : Int) + off = (tgt : Int)) (kt : ¬ rx = ry → xW p l e R s m args below meth c G nL Q hh sz cells slots tgt L rest) (kf : rx = ry → xW p l e R s m args below meth c G nL Q hh sz cells slots (pc + 3) L rest) : xW p l e R s m args below meth c G nL Q hh sz cells slots pc L (va_rf ry :: va_rf rx :: rest) := fun H locs ls hP hz hS hL => lv_acmp_ne hc.1 hc.2.1 hdg ht (fun q9 => kt q9 H locs ls hP hz hS hL) (fun q9 => kf q9 H locs ls hP hz hS hL)
theorem x_null (hc : xC p s m args meth c G nL cc own ret) (hdg : decode cc pc = .ok (.aconst_null, 1)) (k : xW p l e R s m args below meth c G nL Q hh sz cells slots (pc + 1) L (.null :: rest)) : xW p l e R s m args below meth c G nL Q hh sz cells slots pc L rest := fun H locs ls hP hz hS hL => lv_null hc.1 hc.2.1 hdg (k H locs ls hP hz hS hL)
theorem x_ifnull (hc : xC p s m args meth c G nL cc own ret) {x : Nat} {off : Int} (hdg : decode cc pc = .ok (.ifnull off, 3)) (k : xW p l e R s m args below meth c G nL Q hh sz cells slots (pc + 3) L rest) : xW p l e R s m args below meth c G nL Q hh sz cells slots pc L (.ref x :: rest) := fun H locs ls hP hz hS hL => lv_ifnull hc.1 hc.2.1 hdg (k H locs ls hP hz hS hL)
theorem x_ifnonnull (hc : xC p s m args meth c G nL cc own ret) {x : Nat} {off : Int} {tgt : Nat} (hdg : decode cc pc = .ok (.ifnonnull off, 3)) (ht : (pc : Int) + off = (tgt : Int)) (k : xW p l e R s m args below meth c G nL Q hh sz cells slots tgt L rest) : xW p l e R s m args below meth c G nL Q hh sz cells slots pc L (.ref x :: rest) := fun H locs ls hP hz hS hL => lv_ifnonnull hc.1 hc.2.1 hdg ht (k H locs ls hP hz hS hL)
theorem x_ifnullN (hc : xC p s m args meth c G nL cc own ret) {off : Int} {tgt : Nat} (hdg : decode cc pc = .ok (.ifnull off, 3)) (ht : (pc : Int) + off = (tgt : Int)) (k : xW p l e R s m args below meth c G nL Q hh sz cells slots tgt L rest) : xW p l e R s m args below meth c G nL Q hh sz cells slots pc L (.null :: rest) := fun H locs ls hP hz hS hL => lv_ifnullN hc.1 hc.2.1 hdg ht (k H locs ls hP hz hS hL)
theorem x_ifnonnullN (hc : xC p s m args meth c G nL cc own ret) {off : Int} (hdg : decode cc pc = .ok (.ifnonnull off, 3)) (k : xW p l e R s m args below meth c G nL Q hh sz cells slots (pc + 3) L rest) : xW p l e R s m args below meth c G nL Q hh sz cells slots pc L (.null :: rest) := fun H locs ls hP hz hS hL => lv_ifnonnullN hc.1 hc.2.1 hdg (k H locs ls hP hz hS hL)
theorem x_aload_nN (hc : xC p s m args meth c G nL cc own ret) {k : Fin 4} {i : Nat} (hdg : decode cc pc = .ok (.aload_n k, 1)) (hi : (k : Nat) = i) (hl : L[i]? = some (some (.null))) (k : xW p l e R s m args below meth c G nL Q hh sz cells slots (pc + 1) L (.null :: rest)) : xW p l e R s m args below meth c G nL Q hh sz cells slots pc L (rest) := fun H locs ls hP hz hS hL => lv_aload_nN hc.1 hc.2.1 hdg hi (hL.2.2 _ _ hl) (k H locs ls hP hz hS hL)
theorem x_aloadN (hc : xC p s m args meth c G nL cc own ret) {i : Nat} (hdg : decode cc pc = .ok (.aload i, 2)) (hl : L[i]? = some (some (.null))) (k : xW p l e R s m args below meth c G nL Q hh sz cells slots (pc + 2) L (.null :: rest)) : xW p l e R s m args below meth c G nL Q hh sz cells slots pc L (rest) := fun H locs ls hP hz hS hL => lv_aloadN hc.1 hc.2.1 hdg (hL.2.2 _ _ hl) (k H locs ls hP hz hS hL)
theorem x_lcmp (hc : xC p s m args meth c G nL cc own ret) {x y : Int64} (hdg : decode cc pc = .ok (.lcmp, 1)) (k : xW p l e R s m args below meth c G nL Q hh sz cells slots (pc + 1) L (.int (lg_cmp x y) :: rest)) : xW p l e R s m args below meth c G nL Q hh sz cells slots pc L (.long y :: .long x :: rest) := fun H locs ls hP hz hS hL => W.lcmp hc.1 hc.2.1 hdg (k H locs ls hP hz hS hL)
theorem x_ldc (hc : xC p s m args meth c G nL cc own ret) {index : Nat} {v : Int32} (hw : Jvm.Cond.constant own index v ∈ xWs) (hdg : decode cc pc = .ok (.ldc index, 2)) (k : xW p l e R s m args below meth c G nL Q hh sz cells slots (pc + 2) L (.int v :: rest)) : xW p l e R s m args below meth c G nL Q hh sz cells slots pc L rest := fun H locs ls hP hz hS hL => lv_ldc hc.1 hc.2.1 hc.ow (hc.ts _ hw) hdg (k H locs ls hP hz hS hL)
theorem x_ldc2 (hc : xC p s m args meth c G nL cc own ret) {index : Nat} {v : Int64} (hw : Jvm.Cond.constantLong own index v ∈ xWs) (hdg : decode cc pc = .ok (.ldc2_w index, 3)) (k : xW p l e R s m args below meth c G nL Q hh sz cells slots (pc + 3) L (.long v :: rest)) : xW p l e R s m args below meth c G nL Q hh sz cells slots pc L rest := fun H locs ls hP hz hS hL => lv_ldc2 hc.1 hc.2.1 hc.ow (hc.ts _ hw) hdg (k H locs ls hP hz hS hL)
/-! stores into locals -/
theorem x_istore_n (hc : xC p s m args meth c G nL cc own ret) {k : Fin 4} {x : Int32} (hdg : decode cc pc = .ok (.istore_n k, 1)) (hn : (k : Nat) < nL) (hz2 : xz L k = true) (kk : xW p l e R s m args below meth c G nL Q hh sz cells slots (pc + 1) (L.set k (some (.int x))) rest) : xW p l e R s m args below meth c G nL Q hh sz cells slots pc L (.int x :: rest) := fun H locs ls hP hz hS hL => lv_istore_n hc.1 hc.2.1 hdg rfl hL.has hn rfl (fun ls' h' => kk H locs ls' hP hz hS (xL.st1 hz2 h'))
theorem x_istore (hc : xC p s m args meth c G nL cc own ret) {i : Nat} {x : Int32} (hdg : decode cc pc = .ok (.istore i, 2)) (hn : i < nL) (hz2 : xz L i = true) (kk : xW p l e R s m args below meth c G nL Q hh sz cells slots (pc + 2) (L.set i (some (.int x))) rest) : xW p l e R s m args below meth c G nL Q hh sz cells slots pc L (.int x :: rest) := fun H locs ls hP hz hS hL => lv_istore hc.1 hc.2.1 hdg hL.has hn rfl (fun ls' h' => kk H locs ls' hP hz hS (xL.st1 hz2 h'))
theorem x_astore_n (hc : xC p s m args meth c G nL cc own ret) {k : Fin 4} {x : Nat} (hdg : decode cc pc = .ok (.astore_n k, 1)) (hn : (k : Nat) < nL) (hz2 : xz L k = true) (kk : xW p l e R s m args below meth c G nL Q hh sz cells slots (pc + 1) (L.set k (some (.ref x))) rest) : xW p l e R s m args below meth c G nL Q hh sz cells slots pc L (.ref x :: rest) := fun H locs ls hP hz hS hL => lv_astore_n hc.1 hc.2.1 hdg rfl hL.has hn rfl (fun ls' h' => kk H locs ls' hP hz hS (xL.st1 hz2 h'))
theorem x_astore (hc : xC p s m args meth c G nL cc own ret) {i : Nat} {x : Nat} (hdg : decode cc pc = .ok (.astore i, 2)) (hn : i < nL) (hz2 : xz L i = true) (kk : xW p l e R s m args below meth c G nL Q hh sz cells slots (pc + 2) (L.set i (some (.ref x))) rest) : xW p l e R s m args below meth c G nL Q hh sz cells slots pc L (.ref x :: rest) := fun H locs ls hP hz hS hL => lv_astore hc.1 hc.2.1 hdg hL.has hn rfl (fun ls' h' => kk H locs ls' hP hz hS (xL.st1 hz2 h'))
theorem x_lstore_n (hc : xC p s m args meth c G nL cc own ret) {k : Fin 4} {x : Int64} (hdg : decode cc pc = .ok (.lstore_n k, 1)) (hn : (k : Nat) + 1 < nL) (hz2 : xz L k = true) (kk : xW p l e R s m args below meth c G nL Q hh sz cells slots (pc + 1) ((L.set k (some (.long x))).set ((k : Nat) + 1) none) rest) : xW p l e R s m args below meth c G nL Q hh sz cells slots pc L (.long x :: rest) := fun H locs ls hP hz hS hL => lv_lstore_n hc.1 hc.2.1 hdg rfl hL.has hn rfl (fun ls' h' => kk H locs ls' hP hz hS (xL.st2 hz2 h'))
theorem x_lstore (hc : xC p s m args meth c G nL cc own ret) {i : Nat} {x : Int64} (hdg : decode cc pc = .ok (.lstore i, 2)) (hn : i + 1 < nL) (hz2 : xz L i = true) (kk : xW p l e R s m args below meth c G nL Q hh sz cells slots (pc + 2) ((L.set i (some (.long x))).set (i + 1) none) rest) : xW p l e R s m args below meth c G nL Q hh sz cells slots pc L (.long x :: rest) := fun H locs ls hP hz hS hL => lv_lstore hc.1 hc.2.1 hdg hL.has hn rfl (fun ls' h' => kk H locs ls' hP hz hS (xL.st2 hz2 h'))
theorem x_iinc (hc : xC p s m args meth c G nL cc own ret) {i : Nat} {n : Int} {x : Int32} (hdg : decode cc pc = .ok (.iinc i n, 3)) (hi : L[i]? = some (some (.int x))) (hn : i < nL) (hz2 : xz L i = true) (kk : xW p l e R s m args below meth c G nL Q hh sz cells slots (pc + 3) (L.set i (some (.int (x + Int32.ofInt n)))) rest) : xW p l e R s m args below meth c G nL Q hh sz cells slots pc L rest := fun H locs ls hP hz hS hL => by
  obtain ⟨k, hk⟩ := List.getElem?_of_mem ((xps_mem L 0 (i, .int x)).mpr ⟨Nat.zero_le _, by simpa using hi⟩)
  exact lv_iinc (k := k) hc.1 hc.2.1 hdg hL.has hk rfl hn rfl (fun ls' h' => kk H locs ls' hP hz hS (xL.st1 hz2 h'))
/-! fields of our objects -/
theorem x_get (hc : xC p s m args meth c G nL cc own ret) {ref C : String} {T : u_T} {N ci index a k : Nat} {fs : List Value} {v : Value} (hin : ∀ w ∈ u_ws C T N, w ∈ xWs) (he : hh a = some (.inr (ci, fs))) (hcl : xCl[ci]? = some (C, T, N)) (hk : k < N) (href : (T k).1 = ref) (hlink : Cond.fieldLink own index ref (T k).2.1 (T k).2.2.1 ∈ xWs) (hv : fs[k]? = some v) (hdg : decode cc pc = .ok (.getfield index, 3)) (kk : xW p l e R s m args below meth c G nL Q hh sz cells slots (pc + 3) L (v :: rest)) : xW p l e R s m args below meth c G nL Q hh sz cells slots pc L (.ref a :: rest) := fun H locs ls hP hz hS hL =>
  va_get hc.1 hc.2.1 hc.ts hin hc.ow hc.K (ws := [(a, .inr (ci, fs))]) (fun k q hq => by cases k with | zero => cases hq; exact (hP a _ he).2 | succ k => simp at hq) 0 rfl hcl k hk (hc.ts _ hlink) (fun x h => by rw [← href]; exact h) hv hdg (kk H locs ls hP hz hS hL)
theorem x_getN (hc : xC p s m args meth c G nL cc own ret) {ref C host : String} {T : u_T} {N ci index a k : Nat} {fs : List Value} {v : Value} (hin : ∀ w ∈ u_ws C T N, w ∈ xWs) (he : hh a = some (.inr (ci, fs))) (hcl : xCl[ci]? = some (C, T, N)) (hk : k < N) (href : (T k).1 = ref) (hlink : Cond.fieldLinkNest own index ref (T k).2.1 (T k).2.2.1 host ∈ xNw) (hv : fs[k]? = some v) (hdg : decode cc pc = .ok (.getfield index, 3)) (kk : xW p l e R s m args below meth c G nL Q hh sz cells slots (pc + 3) L (v :: rest)) : xW p l e R s m args below meth c G nL Q hh sz cells slots pc L (.ref a :: rest) := fun H locs ls hP hz hS hL =>
  va_getN hc.1 hc.2.1 hc.ts hin hc.ow hc.K (ws := [(a, .inr (ci, fs))]) (fun k q hq => by cases k with | zero => cases hq; exact (hP a _ he).2 | succ k => simp at hq) 0 rfl hcl k hk (va_Nw.use rfl (hc.nw hlink)) (fun x h => by rw [← href]; exact h) hv hdg (kk H locs ls hP hz hS hL)
theorem xP.put {H H1 : Heap} {a : Nat} {e0 e1 : va_E} (hP : xP G hh H) (he : hh a = some e0) (h1 : va_at (gD G) xCl (a, e1) H1) (oq : ∀ q : Nat, q ≠ a → H1[q]? = H[q]?) : xP G (xu hh a e1) H1 := by
  intro q x hq
  by_cases e : q = a
  · subst e
    rw [xu_s] at hq
    cases hq
    exact ⟨(hP _ _ he).1, h1⟩
  · rw [xu_n _ _ e] at hq
    exact ⟨(hP _ _ hq).1, (hP _ _ hq).2.kept (oq q e)⟩
theorem xP.new {H H1 : Heap} {a : Nat} {e1 : va_E} (hP : xP G hh H) (hB : gB G ≤ a) (h1 : va_at (gD G) xCl (a, e1) H1) (ha : a = H.size) (oq : ∀ q : Nat, q < a → H1[q]? = H[q]?) : xP G (xu hh a e1) H1 := by
  intro q x hq
  by_cases e : q = a
  · subst e
    rw [xu_s] at hq
    cases hq
    exact ⟨hB, h1⟩
  · rw [xu_n _ _ e] at hq
    have hlt := (hP _ _ hq).2.lt
    exact ⟨(hP _ _ hq).1, (hP _ _ hq).2.kept (oq q (by rw [ha]; exact hlt))⟩
theorem x_put (hc : xC p s m args meth c G nL cc own ret) {ref C : String} {T : u_T} {N ci index a k : Nat} {fs : List Value} {v : Value} (hin : ∀ w ∈ u_ws C T N, w ∈ xWs) (ty0 : Nat → FieldType) (hty : ∀ k, k < N → parseFieldDescriptor (T k).2.2.1 = some (ty0 k)) (hnm : ∀ a, a < N → ∀ b, b < N → a ≠ b → (T a).2.1 ≠ (T b).2.1) (he : hh a = some (.inr (ci, fs))) (hcl : xCl[ci]? = some (C, T, N)) (hk : k < N) (href : (T k).1 = ref) (hlink : Cond.fieldLink own index ref (T k).2.1 (T k).2.2.1 ∈ xWs) (hfin : (T k).2.2.2 = false) (hn : narrow (ty0 k) v = v) (hfit : fits (ty0 k) v = true) (hl : k < fs.length) (hdg : decode cc pc = .ok (.putfield index, 3)) (kk : xW p l e R s m args below meth c G nL Q (xu hh a (.inr (ci, fs.set k v))) sz cells slots (pc + 3) L rest) : xW p l e R s m args below meth c G nL Q hh sz cells slots pc L (v :: .ref a :: rest) := by
  intro H locs ls hP hz hS hL
  have hap := va_apart (own := own) hc.ts hin ty0 hty hnm hc.K hcl
  obtain ⟨r, h1, cell, q1, q2, q3, q4⟩ := (hP a _ he).2
  cases h1.symm.trans hcl
  obtain ⟨hSl, hfc, kC, hkC, hkind⟩ := hc.K.1 ci _ hcl
  obtain ⟨cf, kf, fi, f, hi, hsl⟩ := hSl k hk
  have hlay := hc.ts _ (hin _ (u_in_lay hk))
  unfold u_lay at hlay
  rw [if_neg (by rw [hfin]; decide)] at hlay
  have hst := (u_facts hfc hkC (u_lays hc.ts hin hk) hi).1
  have h6 := u_store hfc hkC hkind hlay hi (hty k hk) hn hfit
  refine W.putK hc.1 hc.2.1 (f := f) ⟨hc.ow, hc.ts _ hlink, ⟨_, _, _, by rw [← href]; exact hi⟩, hst⟩ (by rw [q2]; exact h6) q1 q3 (by rw [hsl]; exact k2_hasslot (q4 k hk)) rfl rfl hdg fun H' e1 e2 e3 => ?_
  rw [hsl] at e1 ⊢
  exact kk H' _ ls (hP.put he ⟨_, hcl, t_OB.to (V := updV (vp_V fs) k v) ⟨_, e1, q2, q3, t_set q4 hap hk v⟩ (fun j _ => vp_updV_set hl v j)⟩ e3) (e2.trans hz) (hS.put e2 e3 (hP a _ he).1) hL
theorem x_putN (hc : xC p s m args meth c G nL cc own ret) {ref C host : String} {T : u_T} {N ci index a k : Nat} {fs : List Value} {v : Value} (hin : ∀ w ∈ u_ws C T N, w ∈ xWs) (ty0 : Nat → FieldType) (hty : ∀ k, k < N → parseFieldDescriptor (T k).2.2.1 = some (ty0 k)) (hnm : ∀ a, a < N → ∀ b, b < N → a ≠ b → (T a).2.1 ≠ (T b).2.1) (he : hh a = some (.inr (ci, fs))) (hcl : xCl[ci]? = some (C, T, N)) (hk : k < N) (href : (T k).1 = ref) (hlink : Cond.fieldLinkNest own index ref (T k).2.1 (T k).2.2.1 host ∈ xNw) (hfin : (T k).2.2.2 = false) (hn : narrow (ty0 k) v = v) (hfit : fits (ty0 k) v = true) (hl : k < fs.length) (hdg : decode cc pc = .ok (.putfield index, 3)) (kk : xW p l e R s m args below meth c G nL Q (xu hh a (.inr (ci, fs.set k v))) sz cells slots (pc + 3) L rest) : xW p l e R s m args below meth c G nL Q hh sz cells slots pc L (v :: .ref a :: rest) := by
  intro H locs ls hP hz hS hL
  have hap := va_apart (own := own) hc.ts hin ty0 hty hnm hc.K hcl
  obtain ⟨r, h1, cell, q1, q2, q3, q4⟩ := (hP a _ he).2
  cases h1.symm.trans hcl
  obtain ⟨hSl, hfc, kC, hkC, hkind⟩ := hc.K.1 ci _ hcl
  obtain ⟨cf, kf, fi, f, hi, hsl⟩ := hSl k hk
  have hlay := hc.ts _ (hin _ (u_in_lay hk))
  unfold u_lay at hlay
  rw [if_neg (by rw [hfin]; decide)] at hlay
  have hst := (u_facts hfc hkC (u_lays hc.ts hin hk) hi).1
  have h6 := u_store hfc hkC hkind hlay hi (hty k hk) hn hfit
  refine va_WputK hc.1 hc.2.1 (f := f) hc.ow (va_Nw.use rfl (hc.nw hlink)) (by rw [← href]; exact hi) hst (by rw [q2]; exact h6) q1 q3 (by rw [hsl]; exact k2_hasslot (q4 k hk)) rfl rfl hdg fun H' e1 e2 e3 => ?_
  rw [hsl] at e1 ⊢
  exact kk H' _ ls (hP.put he ⟨_, hcl, t_OB.to (V := updV (vp_V fs) k v) ⟨_, e1, q2, q3, t_set q4 hap hk v⟩ (fun j _ => vp_updV_set hl v j)⟩ e3) (e2.trans hz) (hS.put e2 e3 (hP a _ he).1) hL
/-- a final field, in its own constructor -/
theorem x_putF (hc : xC p s m args meth c G nL cc own ret) {ref C : String} {T : u_T} {N ci index a k : Nat} {fs : List Value} {v : Value} (hin : ∀ w ∈ u_ws C T N, w ∈ xWs) (ty0 : Nat → FieldType) (hty : ∀ k, k < N → parseFieldDescriptor (T k).2.2.1 = some (ty0 k)) (hnm : ∀ a, a < N → ∀ b, b < N → a ≠ b → (T a).2.1 ≠ (T b).2.1) (he : hh a = some (.inr (ci, fs))) (hcl : xCl[ci]? = some (C, T, N)) (hk : k < N) (href : (T k).1 = ref) (hlink : Cond.fieldLink own index ref (T k).2.1 (T k).2.2.1 ∈ xWs) (hfin : (T k).2.2.2 = true) (hin2 : meth.name = "<init>") (hdecl : (T k).1 = own) (hn : narrow (ty0 k) v = v) (hfit : fits (ty0 k) v = true) (hl : k < fs.length) (hdg : decode cc pc = .ok (.putfield index, 3)) (kk : xW p l e R s m args below meth c G nL Q (xu hh a (.inr (ci, fs.set k v))) sz cells slots (pc + 3) L rest) : xW p l e R s m args below meth c G nL Q hh sz cells slots pc L (v :: .ref a :: rest) := by
  intro H locs ls hP hz hS hL
  have hap := va_apart (own := own) hc.ts hin ty0 hty hnm hc.K hcl
  obtain ⟨r, h1, cell, q1, q2, q3, q4⟩ := (hP a _ he).2
  cases h1.symm.trans hcl
  obtain ⟨hSl, hfc, kC, hkC, hkind⟩ := hc.K.1 ci _ hcl
  obtain ⟨cf, kf, fi, f, hi, hsl⟩ := hSl k hk
  have hlay := hc.ts _ (hin _ (u_in_lay hk))
  unfold u_lay at hlay
  rw [if_pos hfin] at hlay
  have hst := (u_facts hfc hkC (u_lays hc.ts hin hk) hi).1
  have hcf : m.cls = cf := by
    obtain ⟨_, _, c', _, _, _, -, -, hf', -, -, -, hown2, -⟩ := Cond.laysFinal_spec hlay
    have e1 : c' = cf := by have := hi.symm.trans hf'; simp at this; exact this.1.symm
    rw [hdecl] at hown2
    rw [← e1]; exact Option.some.inj (hc.ow.symm.trans hown2)
  have h6 := u_fits hfc hkC hkind (Or.inr hlay) hi (hty k hk) hn hfit
  refine W.putFinK hc.1 hc.2.1 hc.ow (hc.ts _ hlink) (by rw [← href]; exact hi) hst hcf hin2 (by rw [q2]; exact h6) q1 q3 (by rw [hsl]; exact k2_hasslot (q4 k hk)) rfl rfl hdg fun H' e1 e2 e3 => ?_
  rw [hsl] at e1 ⊢
  exact kk H' _ ls (hP.put he ⟨_, hcl, t_OB.to (V := updV (vp_V fs) k v) ⟨_, e1, q2, q3, t_set q4 hap hk v⟩ (fun j _ => vp_updV_set hl v j)⟩ e3) (e2.trans hz) (hS.put e2 e3 (hP a _ he).1) hL
theorem x_iald (hc : xC p s m args meth c G nL cc own ret) {a n : Nat} {f : Nat → Int32} (ha : hh a = some (.inl (gZ G 0, n, .inl f))) {i : Int32} (hin : vp_in i n) (hdg : decode cc pc = .ok (.iaload, 1)) (kk : xW p l e R s m args below meth c G nL Q hh sz cells slots (pc + 1) L (.int (f i.toNatClampNeg) :: rest)) : xW p l e R s m args below meth c G nL Q hh sz cells slots pc L (.int i :: .ref a :: rest) := fun H locs ls hP hz hS hL =>
  va_iald hc.1 hc.2.1 hc.K (ws := [(a, .inl (gZ G 0, n, .inl f))]) (fun k q hq => by cases k with | zero => cases hq; exact (hP a _ ha).2 | succ k => simp at hq) 0 0 rfl rfl hin hdg (kk H locs ls hP hz hS hL)
theorem x_cald (hc : xC p s m args meth c G nL cc own ret) {a n : Nat} {f : Nat → Int32} (ha : hh a = some (.inl (gZ G 1, n, .inl f))) {i : Int32} (hin : vp_in i n) (hdg : decode cc pc = .ok (.caload, 1)) (kk : xW p l e R s m args below meth c G nL Q hh sz cells slots (pc + 1) L (.int (f i.toNatClampNeg) :: rest)) : xW p l e R s m args below meth c G nL Q hh sz cells slots pc L (.int i :: .ref a :: rest) := fun H locs ls hP hz hS hL =>
  va_cald hc.1 hc.2.1 hc.K (ws := [(a, .inl (gZ G 1, n, .inl f))]) (fun k q hq => by cases k with | zero => cases hq; exact (hP a _ ha).2 | succ k => simp at hq) 0 1 rfl rfl hin hdg (kk H locs ls hP hz hS hL)
theorem x_zald (hc : xC p s m args meth c G nL cc own ret) {a n : Nat} {f : Nat → Int32} (ha : hh a = some (.inl (gZ G 2, n, .inl f))) {i : Int32} (hin : vp_in i n) (hdg : decode cc pc = .ok (.baload, 1)) (kk : xW p l e R s m args below meth c G nL Q hh sz cells slots (pc + 1) L (.int (f i.toNatClampNeg) :: rest)) : xW p l e R s m args below meth c G nL Q hh sz cells slots pc L (.int i :: .ref a :: rest) := fun H locs ls hP hz hS hL =>
  va_zald hc.1 hc.2.1 hc.K (ws := [(a, .inl (gZ G 2, n, .inl f))]) (fun k q hq => by cases k with | zero => cases hq; exact (hP a _ ha).2 | succ k => simp at hq) 0 2 rfl rfl hin hdg (kk H locs ls hP hz hS hL)
theorem x_lald (hc : xC p s m args meth c G nL cc own ret) {a n : Nat} {f : Nat → Int64} (ha : hh a = some (.inl (gZ G 3, n, .inr (.inl f)))) {i : Int32} (hin : vp_in i n) (hdg : decode cc pc = .ok (.laload, 1)) (kk : xW p l e R s m args below meth c G nL Q hh sz cells slots (pc + 1) L (.long (f i.toNatClampNeg) :: rest)) : xW p l e R s m args below meth c G nL Q hh sz cells slots pc L (.int i :: .ref a :: rest) := fun H locs ls hP hz hS hL =>
  va_lald hc.1 hc.2.1 hc.K (ws := [(a, .inl (gZ G 3, n, .inr (.inl f)))]) (fun k q hq => by cases k with | zero => cases hq; exact (hP a _ ha).2 | succ k => simp at hq) 0 3 rfl rfl hin hdg (kk H locs ls hP hz hS hL)
theorem x_aald (hc : xC p s m args meth c G nL cc own ret) {a n : Nat} {f : Nat → Option Nat} (ha : hh a = some (.inl (gZ G 4, n, .inr (.inr (.inr (.inr f)))))) {i : Int32} (hin : vp_in i n) (hdg : decode cc pc = .ok (.aaload, 1)) (kk : xW p l e R s m args below meth c G nL Q hh sz cells slots (pc + 1) L (va_rf (f i.toNatClampNeg) :: rest)) : xW p l e R s m args below meth c G nL Q hh sz cells slots pc L (.int i :: .ref a :: rest) := fun H locs ls hP hz hS hL =>
  va_aldq hc.1 hc.2.1 hc.K (ws := [(a, .inl (gZ G 4, n, .inr (.inr (.inr (.inr f)))))]) (fun k q hq => by cases k with | zero => cases hq; exact (hP a _ ha).2 | succ k => simp at hq) 0 4 rfl rfl hin hdg (kk H locs ls hP hz hS hL)
theorem x_iast (hc : xC p s m args meth c G nL cc own ret) {a n : Nat} {f : Nat → Int32} (ha : hh a = some (.inl (gZ G 0, n, .inl f))) {i : Int32} {x : Int32} (hin : vp_in i n) (hdg : decode cc pc = .ok (.iastore, 1)) (kk : xW p l e R s m args below meth c G nL Q (xu hh a (.inl (gZ G 0, n, .inl (upd f i.toNatClampNeg x)))) sz cells slots (pc + 1) L rest) : xW p l e R s m args below meth c G nL Q hh sz cells slots pc L (.int x :: .int i :: .ref a :: rest) := by
  intro H locs ls hP hz hS hL
  refine W.iast hc.1 hc.2.1 (hP a _ ha).2 ((hc.K.2 0 _ rfl).1 n (fun j => .int (f j))) (fun q => by cases q) (by show ¬ (i < 0 ∨ (arrV _ _ _).slots.size ≤ _); rw [arrV_size]; exact hin) rfl rfl hdg fun H1 e z oq => ?_
  refine kk H1 _ ls (hP.put ha ?_ oq) (z.trans hz) (hS.put z oq (hP a _ ha).1) hL
  show H1[a]? = some (vp_cell _ _)
  rw [e]
  dsimp only
  rw [vp_cell_i, vp_cell_i, arrV_store]
  congr 2
  funext q
  by_cases hq : q = i.toNatClampNeg
  · subst hq
    simp [updV, upd, vp_updL, vp_nar]
    try rfl
  · simp [updV, upd, vp_updL, hq]
theorem x_cast (hc : xC p s m args meth c G nL cc own ret) {a n : Nat} {f : Nat → Int32} (ha : hh a = some (.inl (gZ G 1, n, .inl f))) {i : Int32} {x : Int32} (hin : vp_in i n) (hdg : decode cc pc = .ok (.castore, 1)) (kk : xW p l e R s m args below meth c G nL Q (xu hh a (.inl (gZ G 1, n, .inl (upd f i.toNatClampNeg (vp_nar .char x))))) sz cells slots (pc + 1) L rest) : xW p l e R s m args below meth c G nL Q hh sz cells slots pc L (.int x :: .int i :: .ref a :: rest) := by
  intro H locs ls hP hz hS hL
  refine W.cast hc.1 hc.2.1 (hP a _ ha).2 ((hc.K.2 1 _ rfl).1 n (fun j => .int (f j))) (fun q => by cases q) (by show ¬ (i < 0 ∨ (arrV _ _ _).slots.size ≤ _); rw [arrV_size]; exact hin) rfl rfl hdg fun H1 e z oq => ?_
  refine kk H1 _ ls (hP.put ha ?_ oq) (z.trans hz) (hS.put z oq (hP a _ ha).1) hL
  show H1[a]? = some (vp_cell _ _)
  rw [e]
  dsimp only
  rw [vp_cell_i, vp_cell_i, arrV_store]
  congr 2
  funext q
  by_cases hq : q = i.toNatClampNeg
  · subst hq
    simp [updV, upd, vp_updL, vp_nar]
    try rfl
  · simp [updV, upd, vp_updL, hq]
theorem x_zast (hc : xC p s m args meth c G nL cc own ret) {a n : Nat} {f : Nat → Int32} (ha : hh a = some (.inl (gZ G 2, n, .inl f))) {i : Int32} {x : Int32} (hin : vp_in i n) (hdg : decode cc pc = .ok (.bastore, 1)) (kk : xW p l e R s m args below meth c G nL Q (xu hh a (.inl (gZ G 2, n, .inl (upd f i.toNatClampNeg (vp_nar .boolean x))))) sz cells slots (pc + 1) L rest) : xW p l e R s m args below meth c G nL Q hh sz cells slots pc L (.int x :: .int i :: .ref a :: rest) := by
  intro H locs ls hP hz hS hL
  refine W.zast hc.1 hc.2.1 (hP a _ ha).2 ((hc.K.2 2 _ rfl).1 n (fun j => .int (f j))) (fun q => by cases q) (by show ¬ (i < 0 ∨ (arrV _ _ _).slots.size ≤ _); rw [arrV_size]; exact hin) rfl rfl hdg fun H1 e z oq => ?_
  refine kk H1 _ ls (hP.put ha ?_ oq) (z.trans hz) (hS.put z oq (hP a _ ha).1) hL
  show H1[a]? = some (vp_cell _ _)
  rw [e]
  dsimp only
  rw [vp_cell_i, vp_cell_i, arrV_store]
  congr 2
  funext q
  by_cases hq : q = i.toNatClampNeg
  · subst hq
    simp [updV, upd, vp_updL, vp_nar]
    try rfl
  · simp [updV, upd, vp_updL, hq]
theorem x_last (hc : xC p s m args meth c G nL cc own ret) {a n : Nat} {f : Nat → Int64} (ha : hh a = some (.inl (gZ G 3, n, .inr (.inl f)))) {i : Int32} {x : Int64} (hin : vp_in i n) (hdg : decode cc pc = .ok (.lastore, 1)) (kk : xW p l e R s m args below meth c G nL Q (xu hh a (.inl (gZ G 3, n, .inr (.inl (vp_updL f i.toNatClampNeg x))))) sz cells slots (pc + 1) L rest) : xW p l e R s m args below meth c G nL Q hh sz cells slots pc L (.long x :: .int i :: .ref a :: rest) := by
  intro H locs ls hP hz hS hL
  refine W.last hc.1 hc.2.1 (hP a _ ha).2 ((hc.K.2 3 _ rfl).1 n (fun j => .long (f j))) (fun q => by cases q) (by show ¬ (i < 0 ∨ (arrV _ _ _).slots.size ≤ _); rw [arrV_size]; exact hin) rfl rfl hdg fun H1 e z oq => ?_
  refine kk H1 _ ls (hP.put ha ?_ oq) (z.trans hz) (hS.put z oq (hP a _ ha).1) hL
  show H1[a]? = some (vp_cell _ _)
  rw [e]
  dsimp only
  rw [vp_cell_l, vp_cell_l, arrV_store]
  congr 2
  funext q
  by_cases hq : q = i.toNatClampNeg
  · subst hq
    simp [updV, upd, vp_updL, vp_nar]
    try rfl
  · simp [updV, upd, vp_updL, hq]
theorem x_alen (hc : xC p s m args meth c G nL cc own ret) {a t0 : Nat} {cA : ClassId} {x : vp_A} {ty : FieldType} (ha : hh a = some (.inl (cA, x))) (ht : (xtys (gZ G))[t0]? = some (cA, ty)) {v : Int32} (hv : Int32.ofNat x.1 = v) (hdg : decode cc pc = .ok (.arraylength, 1)) (kk : xW p l e R s m args below meth c G nL Q hh sz cells slots (pc + 1) L (.int v :: rest)) : xW p l e R s m args below meth c G nL Q hh sz cells slots pc L (.ref a :: rest) := fun H locs ls hP hz hS hL =>
  va_alen hc.1 hc.2.1 hc.K (ws := [(a, .inl (cA, x))]) (fun k q hq => by cases k with | zero => cases hq; exact (hP a _ ha).2 | succ k => simp at hq) 0 t0 rfl ht hv hdg (kk H locs ls hP hz hS hL)
theorem x_new (hc : xC p s m args meth c G nL cc own ret) {C : String} {T : u_T} {N ci index : Nat} (hin : ∀ w ∈ u_ws C T N, w ∈ xWs) (ty : Nat → FieldType) (hty : ∀ k, k < N → parseFieldDescriptor (T k).2.2.1 = some (ty k)) (hcl : Cond.classLink own index C ∈ xWs) (hinst : Cond.instantiable C N ∈ xWs) (hini : Cond.initialized C ∈ xWs) (hcc : xCl[ci]? = some (C, T, N)) {fs : List Value} (hfs : ∀ j, j < N → defaultValue (ty j) = vp_V fs j) (hcells : cells + 1 ≤ R.cells) (hslots : slots + N ≤ R.slots) (hdg : decode cc pc = .ok (.new index, 3)) (kk : xW p l e R s m args below meth c G nL Q (xu hh sz (.inr (ci, fs))) (sz + 1) (cells + 1) (slots + N) (pc + 3) L (.ref sz :: rest)) : xW p l e R s m args below meth c G nL Q hh sz cells slots pc L rest := by
  intro H locs ls hP hz hS hL
  have hKn := hc.K.1 ci _ hcc
  refine W.newcK hc.1 hc.2.1 hc.ow (hc.ts _ hcl) (hc.ts _ hinst) (hc.ts _ hini) rfl hdg hcells hslots hKn.2.1 hz fun H1 kC hkC e1 z1 o1 => ?_
  have hB : gB G ≤ sz := by rw [← hz]; exact Nat.le_trans hc.2.2.2.2.2.2.2.2 hS.1
  exact kk H1 locs ls (hP.new hB ⟨_, hcc, (u_born ty hc.ts hin hKn hkC e1 hty).to hfs⟩ hz.symm o1) z1 ⟨Nat.le_trans hS.1 (by rw [hz, z1]; omega), fun x h1 h2 => (o1 x (by rw [← hz]; exact Nat.lt_of_lt_of_le h1 hS.1)).trans (hS.2.1 x h1 h2), hS.2.2⟩ hL
theorem x_newa (hc : xC p s m args meth c G nL cc own ret) {atype : ArrayType} {ty : FieldType} (harr : Cond.arrayClass ty ∈ xWs) (hty : newarray.typeOf atype = ty) {t0 : Nat} {cA : ClassId} (ht : (xtys (gZ G))[t0]? = some (cA, ty)) (hpr : ∀ C, ty ≠ .object C) {n : Int32} {N' : Nat} {a0 : vp_A} (ha : vp_cell cA a0 = arrV cA N' (fun _ => defaultValue ty)) (hn : ¬ n < 0) (hN : n.toNatClampNeg = N') (hbytes : N' * componentBytes ty ≤ 536870912) (hcells : cells + 1 ≤ R.cells) (hslots : slots + N' ≤ R.slots) (hdg : decode cc pc = .ok (.newarray atype, 2)) (kk : xW p l e R s m args below meth c G nL Q (xu hh sz (.inl (cA, a0))) (sz + 1) (cells + 1) (slots + N') (pc + 2) L (.ref sz :: rest)) : xW p l e R s m args below meth c G nL Q hh sz cells slots pc L (.int n :: rest) := by
  intro H locs ls hP hz hS hL
  subst hty
  have hRA := (hc.K.2 t0 _ ht).2
  have hnm : s.vm.findClass ("[" ++ (newarray.typeOf atype).toString) = some cA := by
    cases hq : newarray.typeOf atype with
    | object C => exact absurd hq (hpr C)
    | _ => rw [hq] at hRA; exact hRA
  refine va_newaK hc.1 hc.2.1 (hc.ts _ harr) rfl hdg rfl hn hN hbytes hcells hslots hz fun H1 cA' e1 z1 o1 hAr hNm => ?_
  cases hnm.symm.trans hNm
  have hB : gB G ≤ sz := by rw [← hz]; exact Nat.le_trans hc.2.2.2.2.2.2.2.2 hS.1
  refine kk H1 locs ls (hP.new hB ?_ hz.symm o1) z1 ⟨Nat.le_trans hS.1 (by rw [hz, z1]; omega), fun x h1 h2 => (o1 x (by rw [← hz]; exact Nat.lt_of_lt_of_le h1 hS.1)).trans (hS.2.1 x h1 h2), hS.2.2⟩ hL
  show H1[sz]? = some (vp_cell _ _)
  rw [ha]
  exact e1
theorem x_objInit (hc : xC p s m args meth c G nL cc own ret) {idx a : Nat} (hlink : Cond.methodLink own idx objectInit ∈ xWs) (hinst : Cond.instanceMethod objectInit ∈ xWs) (hcode : Cond.code objectInit ⟨#[0xb1]⟩ 1 none ∈ xWs) (hdg : decode cc pc = .ok (.invokespecial idx, 3)) (hframes : 1 ≤ R.frames) (hlocals : (rest.map fun v => v.category).sum + 12 ≤ R.locals) (kk : xW p l e R s m args below meth c G nL Q hh sz cells slots (pc + 3) L rest) : xW p l e R s m args below meth c G nL Q hh sz cells slots pc L (.ref a :: rest) := fun H locs ls hP hz hS hL =>
  W.objInit hc.1 hc.2.1 hc.ow (hc.ts _ hlink) (hc.ts _ hinst) (hc.ts _ hcode) rfl (by rw [hc.2.2.1]; exact hL.1) rfl hdg hframes (by simpa [JFrame.monitorRoom] using hlocals) (W.eq rfl (kk H locs ls hP hz hS hL))
/-! contracts -/
def xPc (G : xG) (As : List Value) (h : xH) (n : Nat) : Array Value → State → Prop := va_Pc As (fun U => xP G h U.heap ∧ U.heap.size = n ∧ gB G ≤ n ∧ xF G U)
def xQc (G : xG) (r : Option Value) (h : xH) (n : Nat) : Array Value → State → Outcome → State → Prop := fun _ st oc t => oc = .returned r ∧ xP G h t.heap ∧ t.heap.size = n ∧ va_F (xA G) st t
/-- y's contract at these arguments and this heap: it returns r, the heap is h', n' cells in all -/
def xM (l : Launch) (G : xG) (y : MethodName) (cc : ByteArray) (maxL : Nat) (ret : Option FieldType) (d mc ms : Nat) (As : List Value) (h : xH) (n : Nat) (r : Option Value) (h' : xH) (n' : Nat) : Prop :=
  Met l y (Cond.code y cc maxL ret :: xWs) { frames := d, cells := mc, slots := ms, locals := 48 * d } (xPc G As h n) (xQc G r h' n') mc ms (xA G)
theorem xGood {w : Cond} (h : w ∈ xWs) : GoodIn xWs (w :: xWs) := by
  intro v hv
  have hv : v ∈ xWs := by
    rcases List.mem_cons.mp hv with e | e
    · rw [e]; exact h
    · exact e
  exact ⟨hv, good_of_word (List.mem_filter.mp hv).2⟩
theorem xPc.blind {As : List Value} {h : xH} {n : Nat} : FrameBlind (xPc G As h n) := by
  intro a U g mk q
  obtain ⟨q0, q1, q2, q3, q4⟩ := q
  exact ⟨q0, q1, q2, q3, xF.same (u := U) rfl rfl q4⟩
/-- the locals at a method's start -/
def xent : List Value → List (Option Value)
  | [] => []
  | v :: t => if v.category = 2 then some v :: none :: xent t else some v :: xent t
theorem xent_mem : ∀ (vs : List Value) (k i : Nat) (v : Value), (xent vs)[i]? = some (some v) → (k + i, v) ∈ lv_args k vs
  | [], k, i, v, h => by simp [xent] at h
  | w :: t, k, i, v, h => by
    unfold xent at h
    unfold lv_args
    by_cases hw : w.category = 2
    · rw [if_pos hw] at h ⊢
      match i, h with
      | 0, h => simp at h; subst h; exact List.mem_cons_self
      | 1, h => simp at h
      | i + 2, h =>
        have := xent_mem t (k + 2) i v (by simpa using h)
        rw [show k + (i + 2) = k + 2 + i by omega]
        exact List.mem_cons_of_mem _ this
    · rw [if_neg hw] at h ⊢
      match i, h with
      | 0, h => simp at h; subst h; exact List.mem_cons_self
      | i + 1, h =>
        have := xent_mem t (k + 1) i v (by simpa using h)
        rw [show k + (i + 1) = k + 1 + i by omega]
        exact List.mem_cons_of_mem _ this
theorem xL_entry {vs : List Value} {n k : Nat} {L0 : List (Option Value)} (h : (lg_sl vs).length ≤ n) (hL : xent vs ++ List.replicate k none = L0) : xL ((lg_sl vs ++ List.replicate (n - (lg_sl vs).length) Slot.unset).toArray) n L0 := by
  have hl := lv_entry vs h
  refine ⟨hl.1, hl.2.1, fun i v hi => ?_⟩
  subst hL
  by_cases hlt : i < (xent vs).length
  · rw [List.getElem?_append_left hlt] at hi
    have := xent_mem vs 0 i v hi
    rw [Nat.zero_add] at this
    exact hl.2.2 (i, v) this
  · rw [List.getElem?_append_right (by omega), List.getElem?_replicate] at hi
    split at hi <;> simp at hi
/-- a contract out of a walk of the body -/
theorem xM.of {y : MethodName} {maxL d mc ms n n' k : Nat} {As : List Value} {h h' : xH} {r : Option Value} {L0 : List (Option Value)} (hy : plainName y.cls = true) (hlen : (lg_sl As).length ≤ maxL) (hL0 : xent As ++ List.replicate k none = L0)
    (body : ∀ (p : Program) (e : Env) (s : State) (m : MethodId) (args : Array Value) (below : List Frame) (meth : Method) (c : Code), xC p s m args meth c G maxL cc y.cls ret → meth.name = y.name → xW p l e { frames := d, cells := mc, slots := ms, locals := 48 * d } s m args below meth c G maxL (MQ below (xQc G r h' n') args s mc ms (xA G)) h n 0 0 0 L0 []) : xM l G y cc maxL ret d mc ms As h n r h' n' := by
  refine Met.ofW (cc := cc) (maxL := maxL) (ret := ret) hy rfl ?_
  intro p e s m args below meth c s₁ B hml hv
  obtain ⟨rfl, hP, hz, hB, hF⟩ := hv
  have hts := atoms_spec (ws := Cond.code y cc maxL ret :: xWs) B.pre
  have hc : xC p s m As.toArray meth c G maxL cc y.cls ret := ⟨B.exec, B.bytes, hml, findClass_of_methodNamed B.named, fun w hw => hts w (List.mem_cons_of_mem _ hw), hF, B.returns, B.notSynchronized, by rw [hz]; exact hB⟩
  rw [lg_entry_eq]
  exact body p e s m As.toArray below meth c hc (name_of_methodNamed B.named B.method).1 s.heap [] _ hP hz va_S.rf (xL_entry hlen hL0)
/-! returns -/
theorem x_ireturn (hc : xC p s m args meth c G nL cc own (some .int)) {v : Int32} (hdg : decode cc pc = .ok (.ireturn, 1)) : xW p l e R s m args below meth c G nL (MQ below (xQc G (some (.int v)) hh sz) args s cells slots (xA G)) hh sz cells slots pc L [.int v] := fun H locs ls hP hz hS hL =>
  W.iret hc.1 hc.2.1 hc.2.2.2.2.2.2.1 (fun t ht hW => ⟨rfl, by rw [ht]; exact hP, by rw [ht]; exact hz, hS.F ht⟩) hS.2.2 hdg (hlocks := hc.2.2.2.2.2.2.2.1)
theorem x_zreturn {ty : FieldType} (hc : xC p s m args meth c G nL cc own (some ty)) {v : Int32} (hn : narrow ty (.int v) = .int v) (hdg : decode cc pc = .ok (.ireturn, 1)) : xW p l e R s m args below meth c G nL (MQ below (xQc G (some (.int v)) hh sz) args s cells slots (xA G)) hh sz cells slots pc L [.int v] := fun H locs ls hP hz hS hL =>
  W.zret hc.1 hc.2.1 hc.2.2.2.2.2.2.1 hn (fun t ht hW => ⟨rfl, by rw [ht]; exact hP, by rw [ht]; exact hz, hS.F ht⟩) hS.2.2 hdg (hlocks := hc.2.2.2.2.2.2.2.1)
theorem x_lreturn (hc : xC p s m args meth c G nL cc own (some .long)) {v : Int64} (hdg : decode cc pc = .ok (.lreturn, 1)) : xW p l e R s m args below meth c G nL (MQ below (xQc G (some (.long v)) hh sz) args s cells slots (xA G)) hh sz cells slots pc L [.long v] := fun H locs ls hP hz hS hL =>
  W.lret hc.1 hc.2.1 hc.2.2.2.2.2.2.1 (fun t ht hW => ⟨rfl, by rw [ht]; exact hP, by rw [ht]; exact hz, hS.F ht⟩) hS.2.2 hdg (hlocks := hc.2.2.2.2.2.2.2.1)
theorem x_return (hc : xC p s m args meth c G nL cc own none) (hdg : decode cc pc = .ok (.return_, 1)) : xW p l e R s m args below meth c G nL (MQ below (xQc G none hh sz) args s cells slots (xA G)) hh sz cells slots pc L [] := fun H locs ls hP hz hS hL =>
  W.vret hc.1 hc.2.1 hc.2.2.2.2.2.2.1 (fun t ht hW => ⟨rfl, by rw [ht]; exact hP, by rw [ht]; exact hz, hS.F ht⟩) hS.2.2 hdg (hlocks := hc.2.2.2.2.2.2.2.1)
theorem x_areturn {C : String} (hc : xC p s m args meth c G nL cc own (some (.object C))) {a : Nat} (hdg : decode cc pc = .ok (.areturn, 1)) : xW p l e R s m args below meth c G nL (MQ below (xQc G (some (.ref a)) hh sz) args s cells slots (xA G)) hh sz cells slots pc L [.ref a] := fun H locs ls hP hz hS hL =>
  W.aret hc.1 hc.2.1 hc.2.2.2.2.2.2.1 (Or.inl ⟨_, rfl⟩) (Or.inr ⟨_, rfl⟩) (fun t ht hW => ⟨rfl, by rw [ht]; exact hP, by rw [ht]; exact hz, hS.F ht⟩) hS.2.2 hdg (hlocks := hc.2.2.2.2.2.2.2.1)
/-! calls -/
theorem x_of_run {H : Heap} {locs : List Loc} {ls : Array Slot} {mc ms n' : Nat} {st0 : List Value} {r : Option Value} {h' : xH} {a : Array Value} (hr : va_Run p l e R s m args below meth c H locs cells slots mc ms (F0 m pc ls st0) rest (xQc G r h' n' a) (xA G)) (hS : va_S (xA G) s.heap H locs) (hL : xL ls nL L)
    (kk : xW p l e R s m args below meth c G nL Q h' n' (cells + mc) (slots + ms) (pc + 3) L (r.toList ++ rest)) : W p l e R s m args below meth c H locs cells slots Q (F0 m pc ls st0) := by
  intro T hT X
  obtain ⟨v, st₀, t, T', L', h0, X', hL', e1, e2, ⟨hv, hP, hz, hF⟩, st⟩ := hr T hT X
  cases hv
  obtain ⟨hz1, hk1⟩ := hF
  rw [h0] at hz1 hk1
  have hS' : va_S (xA G) s.heap T'.heap (locs ++ L') := by
    refine ⟨Nat.le_trans hS.1 (by rw [e1]; exact hz1), fun q h1 h2 => ?_, fun q hq => ?_⟩
    · rw [e1, hk1 q (Nat.lt_of_lt_of_le h1 hS.1) h2]
      exact hS.2.1 q h1 h2
    · rcases List.mem_append.mp hq with h | h
      · exact hS.2.2 q h
      · exact hL' q h
  obtain ⟨t2, a1, b1⟩ := kk T'.heap (locs ++ L') ls (by rw [e1]; exact hP) (by rw [e1]; exact hz) hS' hL T' rfl X'
  exact ⟨t2, st t2 a1, b1⟩
theorem xpre {H : Heap} {locs : List Loc} {As : List Value} (hc : xC p s m args meth c G nL cc own ret) (hP : xP G hh H) (hz : H.size = sz) (hS : va_S (xA G) s.heap H locs) : ∀ U : State, U.heap = H → s.WarmedH U.vm → xPc G As hh sz As.toArray U := by
  intro U hU hW
  exact ⟨rfl, by rw [hU]; exact hP, by rw [hU]; exact hz, by rw [← hz]; exact Nat.le_trans hc.2.2.2.2.2.2.2.2 hS.1, hc.F.step hW hS hU⟩
/-- what a call asks of the room: d the callee's depth, maxL its locals -/
abbrev xR (R : Room) (d maxL : Nat) : Prop := d + 1 ≤ R.frames ∧ 8 + (maxL + 11) + 48 * d ≤ R.locals
abbrev xN (y : MethodName) (n : Nat) : Prop := y.cls ≠ "java/lang/invoke/MethodHandle" ∧ y.cls ≠ "java/lang/invoke/VarHandle" ∧ (parseMethodDescriptor y.desc).map (fun d => d.parameters.length) = some n
/-- invokevirtual of a method of ours, on an object of ours -/
theorem x_callV (hc : xC p s m args meth c G nL cc own ret) {y : MethodName} {bytes : ByteArray} {maxL d mc ms n n' index b ci : Nat} {rt : Option FieldType} {As st : List Value} {h' : xH} {r : Option Value} {q : vw_C} {fs : List Value} (hM : xM l G y bytes maxL rt d mc ms (.ref b :: As) hh sz r h' n') (hb : hh b = some (.inr (ci, fs))) (hcl : xCl[ci]? = some q) (hR : xR R d maxL) (hN : xN y n) (hlen : As.length = n) (hst : st = As.reverse ++ .ref b :: rest)
    (wc : Cond.code y bytes maxL rt ∈ xWs) (wi : Cond.initialized y.cls ∈ xWs) (wl : Cond.methodLink own index y ∈ xWs) (wm : Cond.instanceMethod y ∈ xWs) (wsel : Cond.selects q.1 y y ∈ xWs) (hroom : (rest.map fun v => v.category).sum ≤ 8) (hf : cells + mc ≤ R.cells ∧ slots + ms ≤ R.slots) (hdg : decode cc pc = .ok (.invokevirtual index, 3))
    (kk : xW p l e R s m args below meth c G nL Q h' n' (cells + mc) (slots + ms) (pc + 3) L (r.toList ++ rest)) : xW p l e R s m args below meth c G nL Q hh sz cells slots pc L st := by
  intro H locs ls hP hz hS hL
  obtain ⟨q', h1, cell, g1, g2, g3, -⟩ := (hP b _ hb).2
  cases h1.symm.trans hcl
  subst hst
  exact x_of_run (va_runV (As := As) (C := q.1) ⟨hc.1, hc.2.1, hc.2.2.1, hc.ow, hc.ts⟩ hM ⟨callB_of n hc.ts (xGood wc) rfl rfl rfl (hc.ts _ wi) (hc.ts _ wl) hN hR, hc.ts _ wm, hc.ts _ wsel⟩ ⟨xPc.blind, ⟨cell, g1, by rw [g3]; rfl, by rw [g2]; exact (hc.K.1 ci _ hcl).2.1⟩, xpre hc hP hz hS⟩ rfl hlen hL.1 rfl (lv_room hroom) hdg hf) hS hL kk
/-- the same, of a nest mate's private method -/
theorem x_callVN (hc : xC p s m args meth c G nL cc own ret) {y : MethodName} {bytes : ByteArray} {host : String} {maxL d mc ms n n' index b ci : Nat} {rt : Option FieldType} {As st : List Value} {h' : xH} {r : Option Value} {q : vw_C} {fs : List Value} (hM : xM l G y bytes maxL rt d mc ms (.ref b :: As) hh sz r h' n') (hb : hh b = some (.inr (ci, fs))) (hcl : xCl[ci]? = some q) (hR : xR R d maxL) (hN : xN y n) (hlen : As.length = n) (hst : st = As.reverse ++ .ref b :: rest)
    (wc : Cond.code y bytes maxL rt ∈ xWs) (wi : Cond.initialized y.cls ∈ xWs) (wl : Cond.methodLinkNest own index y host ∈ xNw) (wm : Cond.instanceMethod y ∈ xWs) (wsel : Cond.selects q.1 y y ∈ xWs) (hroom : (rest.map fun v => v.category).sum ≤ 8) (hf : cells + mc ≤ R.cells ∧ slots + ms ≤ R.slots) (hdg : decode cc pc = .ok (.invokevirtual index, 3))
    (kk : xW p l e R s m args below meth c G nL Q h' n' (cells + mc) (slots + ms) (pc + 3) L (r.toList ++ rest)) : xW p l e R s m args below meth c G nL Q hh sz cells slots pc L st := by
  intro H locs ls hP hz hS hL
  obtain ⟨q', h1, cell, g1, g2, g3, -⟩ := (hP b _ hb).2
  cases h1.symm.trans hcl
  subst hst
  exact x_of_run (va_runVN (As := As) (C := q.1) ⟨hc.1, hc.2.1, hc.2.2.1, hc.ow, hc.ts⟩ hM ⟨va_cnB n hc.ts (xGood wc) rfl rfl rfl (hc.nw wl) (hc.ts _ wi) hN hR, hc.ts _ wm, hc.ts _ wsel⟩ ⟨xPc.blind, ⟨cell, g1, by rw [g3]; rfl, by rw [g2]; exact (hc.K.1 ci _ hcl).2.1⟩, xpre hc hP hz hS⟩ rfl hlen hL.1 rfl (lv_room hroom) hdg hf) hS hL kk
/-- invokestatic -/
theorem x_callS (hc : xC p s m args meth c G nL cc own ret) {y : MethodName} {bytes : ByteArray} {maxL d mc ms n n' index : Nat} {rt : Option FieldType} {As st : List Value} {h' : xH} {r : Option Value} (hM : xM l G y bytes maxL rt d mc ms As hh sz r h' n') (hR : xR R d maxL) (hN : xN y n) (hlen : As.length = n) (hst : st = As.reverse ++ rest)
    (wc : Cond.code y bytes maxL rt ∈ xWs) (wi : Cond.initialized y.cls ∈ xWs) (wl : Cond.methodLink own index y ∈ xWs) (wm : Cond.static y ∈ xWs) (hroom : (rest.map fun v => v.category).sum ≤ 8) (hf : cells + mc ≤ R.cells ∧ slots + ms ≤ R.slots) (hdg : decode cc pc = .ok (.invokestatic index, 3))
    (kk : xW p l e R s m args below meth c G nL Q h' n' (cells + mc) (slots + ms) (pc + 3) L (r.toList ++ rest)) : xW p l e R s m args below meth c G nL Q hh sz cells slots pc L st := by
  intro H locs ls hP hz hS hL
  subst hst
  exact x_of_run (va_runS (As := As) ⟨hc.1, hc.2.1, hc.2.2.1, hc.ow, hc.ts⟩ hM ⟨callB_of n hc.ts (xGood wc) rfl rfl rfl (hc.ts _ wi) (hc.ts _ wl) hN hR, hc.ts _ wm⟩ ⟨xPc.blind, xpre hc hP hz hS⟩ rfl hlen hL.1 rfl (lv_room hroom) hdg hf) hS hL kk
theorem x_callSN (hc : xC p s m args meth c G nL cc own ret) {y : MethodName} {bytes : ByteArray} {host : String} {maxL d mc ms n n' index : Nat} {rt : Option FieldType} {As st : List Value} {h' : xH} {r : Option Value} (hM : xM l G y bytes maxL rt d mc ms As hh sz r h' n') (hR : xR R d maxL) (hN : xN y n) (hlen : As.length = n) (hst : st = As.reverse ++ rest)
    (wc : Cond.code y bytes maxL rt ∈ xWs) (wi : Cond.initialized y.cls ∈ xWs) (wl : Cond.methodLinkNest own index y host ∈ xNw) (wm : Cond.static y ∈ xWs) (hroom : (rest.map fun v => v.category).sum ≤ 8) (hf : cells + mc ≤ R.cells ∧ slots + ms ≤ R.slots) (hdg : decode cc pc = .ok (.invokestatic index, 3))
    (kk : xW p l e R s m args below meth c G nL Q h' n' (cells + mc) (slots + ms) (pc + 3) L (r.toList ++ rest)) : xW p l e R s m args below meth c G nL Q hh sz cells slots pc L st := by
  intro H locs ls hP hz hS hL
  subst hst
  exact x_of_run (va_runSN (As := As) ⟨hc.1, hc.2.1, hc.2.2.1, hc.ow, hc.ts⟩ hM ⟨va_cnB n hc.ts (xGood wc) rfl rfl rfl (hc.nw wl) (hc.ts _ wi) hN hR, hc.ts _ wm, trivial⟩ ⟨xPc.blind, xpre hc hP hz hS⟩ rfl hlen hL.1 rfl (lv_room hroom) hdg hf) hS hL kk
/-- invokespecial of a constructor -/
theorem x_callI (hc : xC p s m args meth c G nL cc own ret) {y : MethodName} {bytes : ByteArray} {maxL d mc ms n n' index b : Nat} {As st : List Value} {h' : xH} {r : Option Value} (hM : xM l G y bytes maxL none d mc ms (.ref b :: As) hh sz r h' n') (hR : xR R d maxL) (hN : xN y n) (hy : y.name = "<init>") (hlen : As.length = n) (hst : st = As.reverse ++ .ref b :: rest)
    (wc : Cond.code y bytes maxL none ∈ xWs) (wi : Cond.initialized y.cls ∈ xWs) (wl : Cond.methodLink own index y ∈ xWs) (wm : Cond.instanceMethod y ∈ xWs) (hroom : (rest.map fun v => v.category).sum ≤ 8) (hf : cells + mc ≤ R.cells ∧ slots + ms ≤ R.slots) (hdg : decode cc pc = .ok (.invokespecial index, 3))
    (kk : xW p l e R s m args below meth c G nL Q h' n' (cells + mc) (slots + ms) (pc + 3) L (r.toList ++ rest)) : xW p l e R s m args below meth c G nL Q hh sz cells slots pc L st := by
  intro H locs ls hP hz hS hL
  subst hst
  exact x_of_run (va_runI (As := As) ⟨hc.1, hc.2.1, hc.2.2.1, hc.ow, hc.ts⟩ hM ⟨callB_of n hc.ts (xGood wc) rfl rfl rfl (hc.ts _ wi) (hc.ts _ wl) hN hR, hy, hc.ts _ wm⟩ ⟨xPc.blind, xpre hc hP hz hS⟩ rfl hlen hL.1 rfl (lv_room hroom) hdg hf) hS hL kk
theorem x_callIN (hc : xC p s m args meth c G nL cc own ret) {y : MethodName} {bytes : ByteArray} {host : String} {maxL d mc ms n n' index b : Nat} {As st : List Value} {h' : xH} {r : Option Value} (hM : xM l G y bytes maxL none d mc ms (.ref b :: As) hh sz r h' n') (hR : xR R d maxL) (hN : xN y n) (hy : y.name = "<init>") (hlen : As.length = n) (hst : st = As.reverse ++ .ref b :: rest)
    (wc : Cond.code y bytes maxL none ∈ xWs) (wi : Cond.initialized y.cls ∈ xWs) (wl : Cond.methodLinkNest own index y host ∈ xNw) (wm : Cond.instanceMethod y ∈ xWs) (hroom : (rest.map fun v => v.category).sum ≤ 8) (hf : cells + mc ≤ R.cells ∧ slots + ms ≤ R.slots) (hdg : decode cc pc = .ok (.invokespecial index, 3))
    (kk : xW p l e R s m args below meth c G nL Q h' n' (cells + mc) (slots + ms) (pc + 3) L (r.toList ++ rest)) : xW p l e R s m args below meth c G nL Q hh sz cells slots pc L st := by
  intro H locs ls hP hz hS hL
  subst hst
  exact x_of_run (va_runIN (As := As) ⟨hc.1, hc.2.1, hc.2.2.1, hc.ow, hc.ts⟩ hM ⟨va_cnB n hc.ts (xGood wc) rfl rfl rfl (hc.nw wl) (hc.ts _ wi) hN hR, hy, hc.ts _ wm⟩ ⟨xPc.blind, xpre hc hP hz hS⟩ rfl hlen hL.1 rfl (lv_room hroom) hdg hf) hS hL kk
end XL
