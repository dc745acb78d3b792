/-! throwing: the walk begun anew at a state of its own -/
section XT
variable {p : Program} {l : Launch} {e : Env} {R : Room} {s : State} {m : MethodId} {args : Array Value} {below : List Frame} {meth : Method} {c : Code}
theorem x_hears {s U : State} (h : s.vm.Alike U.vm) {m : MethodId} {below : List Frame} (hh : s.hears m below = true) : U.hears m below = true := by
  unfold State.hears at hh ⊢
  split at hh
  · rw [State.code?_eq] at hh ⊢
    rw [h.method?]; exact hh
  · rfl
  · rfl
  · rw [h.method?]; exact hh
theorem x_rebase {T : State} {locs : List Loc} {cells slots : Nat} (X : Stand p l e R s m args below meth c T locs cells slots) {R2 : Room} (h1 : R2.frames ≤ R.frames) (h2 : R2.locals ≤ R.locals) (h3 : cells + R2.cells ≤ R.cells) (h4 : slots + R2.slots ≤ R.slots) : Stand p l e R2 (T.setFrames (.invoking m args :: below)) m args below meth c T [] 0 0 := by
  obtain ⟨g₀, hg₀⟩ := X.frames_eq
  have hcur : T.cur < T.threads.size := State.cur_lt_of_frames hg₀
  have hfr : (T.setFrames (.invoking m args :: below)).frames = .invoking m args :: below := State.frames_setFrames _ hcur
  have hm : T.vm.method? m = some meth := X.method'
  have hm2 : (T.setFrames (.invoking m args :: below)).vm.method? m = some meth := hm
  obtain ⟨t, ht, -⟩ := State.frames_cons hfr
  have hcur2 : (T.setFrames (.invoking m args :: below)).cur < (T.setFrames (.invoking m args :: below)).threads.size := State.cur_lt_of_frames hfr
  have hTT : T = (T.setFrames (.invoking m args :: below)).setFrames (.java g₀ :: below) := by
    obtain ⟨t0, ht0, -⟩ := State.frames_cons hg₀
    rw [State.setFrames_setFrames, ← hg₀]
    exact (State.setFrames_self ht0).symm
  refine ⟨X.admits, X.cas, X.clock, hfr, ?_, ?_, hm, X.code, X.here, X.tail, State.WarmedH.refl _, (State.stackLimits_setFrames _ _ _).symm, (State.stackBytes_setFrames _ _).symm, ?_⟩
  · have h := X.room
    have b1 := X.heapSize
    have b2 := X.used
    have b3 := X.book
    have b4 := X.limits
    have b5 := X.bytes
    simp only [State.hasRoom, Bool.and_eq_true, decide_eq_true_eq] at h ⊢
    rw [State.localsInUse_invoking X.frames X.method X.code, X.frames] at h
    rw [State.localsInUse_invoking hfr hm2 X.code, hfr]
    simp only [State.stackLimits_setFrames, State.stackBytes_setFrames, b4, b5]
    obtain ⟨⟨⟨⟨q1, q2, q3, q4, q5, q6⟩, q7⟩, q8⟩, q9⟩ := h
    refine ⟨⟨⟨⟨by omega, by omega, by omega, by omega, by omega, q6⟩, ?_⟩, ?_⟩, b3⟩
    · show T.heap.size + R2.cells ≤ _
      omega
    · show T.slotsUsed + R2.slots ≤ _
      omega
  · exact x_hears (U := T.setFrames (.invoking m args :: below)) X.warmed.alike X.hears
  · have h := (State.sameButNew.refl (T.setFrames (.invoking m args :: below)) ht).setFrames (.java g₀ :: below) hcur2
    rw [← hTT] at h
    exact h
end XT
