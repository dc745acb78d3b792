/-! throwing: the walk begun anew at a state of its own -/
section XT
variable {p : Program} {l : Launch} {e : Env} {R : Room} {s : State} {m : MethodId} {args : Array Value} {below : List Frame} {meth : Method} {c : Code}
theorem x_hears {s U : State} (h : s.vm.Alike U.vm) {m : MethodId} {below : List Frame} (hh : s.hears m below = true) : U.hears m below = true := by
  unfold State.hears at hh ⊢
  split at hh
  · rw [State.code?_eq] at hh ⊢
    rw [h.method?]; exact hh
  · rfl
  · rfl
  · rw [h.method?]; exact hh
theorem x_rebase {T : State} {locs : List Loc} {cells slots : Nat} (X : Stand p l e R s m args below meth c T locs cells slots) {R2 : Room} (h1 : R2.frames ≤ R.frames) (h2 : R2.locals ≤ R.locals) (h3 : cells + R2.cells ≤ R.cells) (h4 : slots + R2.slots ≤ R.slots) : Stand p l e R2 (T.setFrames (.invoking m args :: below)) m args below meth c T [] 0 0 := by
  obtain ⟨g₀, hg₀⟩ := X.frames_eq
  have hcur : T.cur < T.threads.size := State.cur_lt_of_frames hg₀
  have hfr : (T.setFrames (.invoking m args :: below)).frames = .invoking m args :: below := State.frames_setFrames _ hcur
  have hm : T.vm.method? m = some meth := X.method'
  have hm2 : (T.setFrames (.invoking m args :: below)).vm.method? m = some meth := hm
  obtain ⟨t, ht, -⟩ := State.frames_cons hfr
  have hcur2 : (T.setFrames (.invoking m args :: below)).cur < (T.setFrames (.invoking m args :: below)).threads.size := State.cur_lt_of_frames hfr
  have hTT : T = (T.setFrames (.invoking m args :: below)).setFrames (.java g₀ :: below) := by
    obtain ⟨t0, ht0, -⟩ := State.frames_cons hg₀
    rw [State.setFrames_setFrames, ← hg₀]
    exact (State.setFrames_self ht0).symm
  refine ⟨X.admits, X.cas, X.clock, hfr, ?_, ?_, hm, X.code, X.here, X.tail, State.WarmedH.refl _, (State.stackLimits_setFrames _ _ _).symm, (State.stackBytes_setFrames _ _).symm, ?_⟩
  · have h := X.room
    have b1 := X.heapSize
    have b2 := X.used
    have b3 := X.book
    have b4 := X.limits
    have b5 := X.bytes
    simp only [State.hasRoom, Bool.and_eq_true, decide_eq_true_eq] at h ⊢
    rw [State.localsInUse_invoking X.frames X.method X.code, X.frames] at h
    rw [State.localsInUse_invoking hfr hm2 X.code, hfr]
    simp only [State.stackLimits_setFrames, State.stackBytes_setFrames, b4, b5]
    obtain ⟨⟨⟨⟨q1, q2, q3, q4, q5, q6⟩, q7⟩, q8⟩, q9⟩ := h
    refine ⟨⟨⟨⟨by omega, by omega, by omega, by omega, by omega, q6⟩, ?_⟩, ?_⟩, b3⟩
    · show T.heap.size + R2.cells ≤ _
      omega
    · show T.slotsUsed + R2.slots ≤ _
      omega
  · exact x_hears (U := T.setFrames (.invoking m args :: below)) X.warmed.alike X.hears
  · have h := (State.sameButNew.refl (T.setFrames (.invoking m args :: below)) ht).setFrames (.java g₀ :: below) hcur2
    rw [← hTT] at h
    exact h
/-- a state that changed nothing old: all cells stay -/
theorem x_same_cell {T U : State} {k n : Nat} (h : T.sameButNew U [] k n) {a : Nat} {x : Cell} (hx : T.heap[a]? = some x) : U.heap[a]? = some x := by
  obtain ⟨-, -, -, -, -, h6⟩ := h
  obtain ⟨y, hy, e1, e2, e3⟩ := h6 a x hx
  have : y.slots = x.slots := by
    apply Array.ext_getElem?
    intro i
    exact e3 i (by simp)
  rw [hy, e1, this]
theorem x_same_list {T U : State} {k n : Nat} (h : T.sameButNew U [] k n) : U.heap.toList.take T.heap.size = T.heap.toList := by
  apply List.ext_getElem?
  intro i
  have hle := h.2.1
  by_cases hi : i < T.heap.size
  · rw [List.getElem?_take_of_lt hi]
    have h1 : T.heap[i]? = some T.heap[i] := Array.getElem?_eq_getElem hi
    have h2 := x_same_cell h h1
    rw [Array.getElem?_toList, Array.getElem?_toList, h1, h2]
  · rw [List.getElem?_eq_none (by rw [List.length_take]; omega), List.getElem?_eq_none (by simpa using hi)]
theorem x_same_trans {s T U : State} {locs : List Loc} {k1 n1 k2 n2 : Nat} {F : List Frame} (h1 : s.sameButNew (T.setVm s.vm) locs k1 n1) (h2 : (T.setFrames F).sameButNew ({ U with vm := T.vm } : State) [] k2 n2) : s.sameButNew ({ U with vm := s.vm } : State) locs (k1 + k2) (n1 + n2) := by
  have hl := x_same_list h2
  have hc := @x_same_cell _ _ _ _ h2
  obtain ⟨a1, a2, a3, a4, a5, a6⟩ := h1
  obtain ⟨b1, b2, b3, b4, b5, -⟩ := h2
  have a2 : s.heap.size ≤ T.heap.size := a2
  have b2 : T.heap.size ≤ U.heap.size := b2
  have hl : U.heap.toList.take T.heap.size = T.heap.toList := hl
  have hsum : ((U.heap.toList.drop s.heap.size).map (·.slots.size)).sum = ((T.heap.toList.drop s.heap.size).map (·.slots.size)).sum + ((U.heap.toList.drop T.heap.size).map (·.slots.size)).sum := by
    have e : U.heap.toList.drop s.heap.size = T.heap.toList.drop s.heap.size ++ U.heap.toList.drop T.heap.size := by
      conv => lhs; rw [← List.take_append_drop T.heap.size U.heap.toList, hl]
      rw [List.drop_append_of_le_length (by simpa using a2)]
    rw [e, List.map_append, List.sum_append]
  refine ⟨?_, Nat.le_trans a2 b2, ?_, ?_, ?_, ?_⟩
  · have b1' : ({ U with vm := T.vm } : State) = { (T.setFrames F).setFrames U.frames with heap := U.heap, slotsUsed := U.slotsUsed } := b1
    have a1' : T.setVm s.vm = { s.setFrames T.frames with heap := T.heap, slotsUsed := T.slotsUsed } := a1
    rw [State.setFrames_setFrames] at b1'
    calc ({ U with vm := s.vm } : State) = ({ U with vm := T.vm } : State).setVm s.vm := rfl
      _ = ({ T.setFrames U.frames with heap := U.heap, slotsUsed := U.slotsUsed } : State).setVm s.vm := by rw [b1']
      _ = { (T.setVm s.vm).setFrames U.frames with heap := U.heap, slotsUsed := U.slotsUsed } := rfl
      _ = { ({ s.setFrames T.frames with heap := T.heap, slotsUsed := T.slotsUsed } : State).setFrames U.frames with heap := U.heap, slotsUsed := U.slotsUsed } := by rw [a1']
      _ = { (s.setFrames T.frames).setFrames U.frames with heap := U.heap, slotsUsed := U.slotsUsed } := rfl
      _ = { s.setFrames U.frames with heap := U.heap, slotsUsed := U.slotsUsed } := by rw [State.setFrames_setFrames]
  · have a3 : T.heap.size ≤ s.heap.size + k1 := a3
    have b3 : U.heap.size ≤ T.heap.size + k2 := b3
    show U.heap.size ≤ _
    omega
  · have a4 : T.slotsUsed = s.slotsUsed + ((T.heap.toList.drop s.heap.size).map (·.slots.size)).sum := a4
    have b4 : U.slotsUsed = T.slotsUsed + ((U.heap.toList.drop T.heap.size).map (·.slots.size)).sum := b4
    show U.slotsUsed = s.slotsUsed + ((U.heap.toList.drop s.heap.size).map (·.slots.size)).sum
    omega
  · have a5 : ((T.heap.toList.drop s.heap.size).map (·.slots.size)).sum ≤ n1 := a5
    have b5 : ((U.heap.toList.drop T.heap.size).map (·.slots.size)).sum ≤ n2 := b5
    show ((U.heap.toList.drop s.heap.size).map (·.slots.size)).sum ≤ n1 + n2
    omega
  · intro a x hx
    obtain ⟨y, hy, e1, e2, e3⟩ := a6 a x hx
    exact ⟨y, hc hy, e1, e2, e3⟩
end XT
