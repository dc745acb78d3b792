/-! throwing: the atoms; the row -/
theorem xT.atoms {p : Program} {s U : State} {m : MethodId} {args : Array Value} {meth : Method} {c : Code} {G : xG} {nL : Nat} {cc : ByteArray} {own : String} {ret : Option FieldType} (hc : xC p s m args meth c G nL cc own ret) (hW : s.WarmedH U.vm) (hT : xT G U) {ic : Nat} {X : String} (ho : xOwn ic X) : ∀ w ∈ Bundle.ownAtoms "LintDesk" ic X xNm, w.before args U = true := by
  intro w hw
  rcases ho w hw with h | h | h
  · exact word_at hW (good_of_word (List.mem_filter.mp h).2) (hc.ts w h)
  · have k := xTw_k w h
    have z := hT.1 w h
    cases w <;> first | exact va_Nw.use rfl z | (simp [xTwk] at k)
  · simp only [xTz, List.mem_cons, List.not_mem_nil, or_false] at h
    rcases h with rfl | rfl | rfl | rfl
    · exact hT.2.1.lays.1
    · exact hT.2.2.1.lays.1
    · exact hT.2.1.lays.2
    · exact hT.2.2.1.lays.2
/-- the end of a method that throws an X: our heap is h, n cells in all -/
def xQx (G : xG) (X : String) (h : xH) (n mc ms : Nat) : Array Value → State → Outcome → State → Prop := fun _ st o t =>
  (∃ a ce, o = .threw a ∧ t.heap[a]? = some ce ∧ st.vm.findClass X = some ce.cls ∧ ce.vm = .none) ∧ xP G h t.heap ∧ t.heap.size = n ∧ va_F (xA G) st t ∧ st.WarmedH t.vm ∧ ∃ L, st.sameButNew ({ t with vm := st.vm } : State) L mc ms ∧ ∀ q ∈ L, xA G q.base
/-- the launch makes no traces -/
def xNT (l : Launch) : Prop := ∀ e : Env, l.admits e → e.platform.stackTraces = false
def XQ (below : List Frame) (G : xG) (X : String) (h : xH) (n mc ms : Nat) (args : Array Value) (s : State) : State → Prop := fun t => ∃ o, t.status = .running ∧ Ended t below o ∧ xQx G X h n mc ms args s o t
section
variable {p : Program} {l : Launch} {e : Env} {R : Room} {s : State} {m : MethodId} {args : Array Value} {below : List Frame} {meth : Method} {c : Code} {G : xG} {nL : Nat} {cc : ByteArray} {ret : Option FieldType} {hh : xH} {sz cells slots pc : Nat} {L : List (Option Value)} {rest : List Value}
theorem x_throw0 (hc : xC p s m args meth c G nL cc "LintDesk" ret) (hT : xT G s) (hl : xNT l) (htab : c.exceptionTable.isEmpty = true) {X : String} {ic ix len : Nat} (ho : xOwn ic X) (hfit : Bundle.fit X = true) (wcl : Cond.classLink "LintDesk" ix X ∈ xWs) (win : Cond.instantiable X 6 ∈ xWs) (wini : Cond.initialized X ∈ xWs) (hR : 6 ≤ R.frames ∧ 288 ≤ R.locals) (hf : cells + 1 ≤ R.cells ∧ slots + 6 ≤ R.slots) (hrest : rest = [])
    (hd0 : decode cc pc = .ok (.new ix, 3)) (hd1 : decode cc (pc + 3) = .ok (.dup, 1)) (hmsg : ∀ {s2 : State} {R2 : Room} {H : Heap} {Q : State → Prop} {ls : Array Slot} {st : List Value} {n1 n2 : Nat}, s.WarmedH s2.vm → s2.vm.findClass "LintDesk" = some m.cls → xT G s2 → (∀ a, W p l e R2 s2 m args below meth c H [] n1 n2 Q (F0 m (pc + 4 + len) ls (.ref a :: st))) → W p l e R2 s2 m args below meth c H [] n1 n2 Q (F0 m (pc + 4) ls st))
    (hd2 : decode cc (pc + 4 + len) = .ok (.invokespecial ic, 3)) (hd3 : decode cc (pc + 4 + len + 3) = .ok (.athrow, 1)) : xW p l e R s m args below meth c G nL (XQ below G X hh (sz + 1) (cells + 1) (slots + 6) args s) hh sz cells slots pc L rest := by
  subst hrest
  intro H locs ls hP hz hS hL T hTH X0
  have X2 := x_rebase X0 (R2 := { frames := R.frames, locals := R.locals, cells := 1, slots := 6 }) (Nat.le_refl _) (Nat.le_refl _) hf.1 hf.2
  have hW : s.WarmedH T.vm := X0.warmed
  have hTT : xT G T := hT.step hW hS hTH
  have hT2 : xT G (T.setFrames (.invoking m args :: below)) := xT.same (u := T) rfl rfl hTT
  have hW2 : s.WarmedH (T.setFrames (.invoking m args :: below)).vm := hW
  have hown2 : (T.setFrames (.invoking m args :: below)).vm.findClass "LintDesk" = some m.cls := by
    show T.vm.findClass "LintDesk" = some m.cls
    rw [hW.alike.findClass]; exact hc.ow
  have wd : ∀ w ∈ xWs, w.before args (T.setFrames (.invoking m args :: below)) = true := fun w h => word_at hW2 (good_of_word (List.mem_filter.mp h).2) (hc.ts w h)
  have atoms := hT2.atoms hc hW2 ho
  have hnm : ∀ n ∈ xNm, Bundle.fit n = true := by decide
  have key : W p l e { frames := R.frames, locals := R.locals, cells := 1, slots := 6 } (T.setFrames (.invoking m args :: below)) m args below meth c H [] 0 0 (XQ below G X hh (sz + 1) (cells + 1) (slots + 6) args s) (F0 m pc ls []) := by
    refine W.newc hc.1 hc.2.1 hown2 (wd _ wcl) (wd _ win) (wd _ wini) rfl hd0 (Nat.le_refl _) (Nat.le_refl _) fun cC kC h1 h2 h3 h4 => ?_
    refine lv_dup hc.1 hc.2.1 hd1 rfl ?_
    refine hmsg hW2 hown2 hT2 fun am => ?_
    intro T4 hT4 X4
    have hcell : T4.heap[H.size]? = some (freshCell cC kC) := by rw [hT4]; simp [freshCell]
    have hcm : c.maxLocals = nL := hc.2.2.1
    obtain ⟨U, st, hrun, hend, hWU, hsame, ce, hce, hOC⟩ := X4.ctorThrowS hc.1 (hl e X0.admits) hown2 hfit hnm atoms (fun x hx => by cases hx) h1 h2 hcell (by show T.heap.size ≤ H.size; rw [hTH]; exact Nat.le_refl _) (msg := .ref am) rfl (g := F0 m (pc + 4 + len) ls (.ref am :: .ref H.size :: .ref H.size :: [])) rfl (by rw [hcm]; exact hL.1) rfl rfl (rest := []) rfl (by rw [hc.2.1]; exact hd2) (by rw [hc.2.1]; exact hd3) (by
      intro x hx
      rw [Array.isEmpty_iff.mp htab] at hx
      cases hx) (by show 2 + 3 < R.frames; have := hR.1; omega) (by
      show 2 * 0 + 1 + (13 * 3 + 42) ≤ R.locals
      have := hR.2
      omega) (hlocks := hc.2.2.2.2.2.2.2.1)
    have kept : ∀ a, a < H.size → U.heap[a]? = H[a]? := by
      intro a ha
      have h1 : H[a]? = some H[a] := Array.getElem?_eq_getElem ha
      rw [h1]
      exact x_same_cell (T := T.setFrames (.invoking m args :: below)) hsame (by show T.heap[a]? = _; rw [hTH]; exact h1)
    refine ⟨U, st, .threw H.size, hrun, hend, ⟨H.size, ce, rfl, hce, ?_, hOC.vm⟩, ?_, ?_, ?_, ?_, ?_⟩
    · have := hOC.cls
      have e : T.vm.findClass X = some ce.cls := this
      rw [hW.alike.findClass] at e; exact e
    · intro a x hx
      obtain ⟨g1, g2⟩ := hP a x hx
      exact ⟨g1, g2.kept (kept a g2.lt)⟩
    · have q1 : U.heap.size ≤ T.heap.size + 1 := hsame.2.2.1
      have q2 : H.size < U.heap.size := (Array.getElem?_eq_some_iff.mp hce).1
      rw [hTH] at q1
      omega
    · exact ⟨Nat.le_trans hS.1 (Nat.le_of_lt (Array.getElem?_eq_some_iff.mp hce).1), fun q h1 h2 => by
        rw [kept q (Nat.lt_of_lt_of_le h1 hS.1)]
        exact hS.2.1 q h1 h2⟩
    · exact State.WarmedH.trans hW hWU
    · exact ⟨locs, x_same_trans X0.same hsame, hS.2.2⟩
  exact key T hTH X2
theorem x_throw (hc : xC p s m args meth c G nL cc "LintDesk" ret) (hT : xT G s) (hl : xNT l) (htab : c.exceptionTable.isEmpty = true) {X tx : String} {ic ix im : Nat} (ho : xOwn ic X) (hfit : Bundle.fit X = true) (wcl : Cond.classLink "LintDesk" ix X ∈ xWs) (win : Cond.instantiable X 6 ∈ xWs) (wini : Cond.initialized X ∈ xWs) (hq : (im, tx) ∈ xMsg) (hR : 6 ≤ R.frames ∧ 288 ≤ R.locals) (hf : cells + 1 ≤ R.cells ∧ slots + 6 ≤ R.slots)
    (hd0 : decode cc pc = .ok (.new ix, 3)) (hd1 : decode cc (pc + 3) = .ok (.dup, 1)) (hdm : decode cc (pc + 4) = .ok (.ldc im, 2)) (hd2 : decode cc (pc + 6) = .ok (.invokespecial ic, 3)) (hd3 : decode cc (pc + 9) = .ok (.athrow, 1)) : xW p l e R s m args below meth c G nL (XQ below G X hh (sz + 1) (cells + 1) (slots + 6) args s) hh sz cells slots pc L [] := by
  refine x_throw0 (len := 2) hc hT hl htab ho hfit wcl win wini hR hf rfl hd0 hd1 ?_ hd2 hd3
  intro s2 R2 H Q ls st n1 n2 hW hown hT2 k
  obtain ⟨a, ha⟩ := hT2.2.2.2.1 _ hq
  exact va_ldcS hc.1 hc.2.1 hown ha hdm (k a)
/-- y's contract where it throws an X -/
def xX (l : Launch) (G : xG) (y : MethodName) (cc : ByteArray) (maxL : Nat) (ret : Option FieldType) (d mc ms : Nat) (As : List Value) (h : xH) (n : Nat) (X : String) (h' : xH) (n' : Nat) : Prop :=
  MetFree l y (headSpec (Cond.code y cc maxL ret :: xWs) { frames := d, cells := mc, slots := ms, locals := 48 * d }) (fun a U => xPc G As h n a U ∧ xT G U) (fun _ _ _ _ _ => True) (xQx G X h' n' mc ms)
theorem xX.of {y : MethodName} {maxL d mc ms n n' k : Nat} {As : List Value} {h h' : xH} {X : String} {L0 : List (Option Value)} (hy : plainName y.cls = true) (hlen : (lg_sl As).length ≤ maxL) (hL0 : xent As ++ List.replicate k none = L0)
    (body : ∀ (p : Program) (e : Env) (s : State) (m : MethodId) (args : Array Value) (below : List Frame) (meth : Method) (c : Code), xC p s m args meth c G maxL cc y.cls ret → xT G s → c.exceptionTable.isEmpty = true → xW p l e { frames := d, cells := mc, slots := ms, locals := 48 * d } s m args below meth c G maxL (XQ below G X h' n' mc ms args s) h n 0 0 0 L0 []) : xX l G y cc maxL ret d mc ms As h n X h' n' := by
  refine MetFree.of_bodyS (code := cc) (maxLocals := maxL) (ret := ret) hy ?_ ?_
  · intro args s m h hn
    obtain ⟨meth, c, h1, h2, h3, h4, h5, h6, -, -⟩ := Cond.code_spec hn (atoms_spec (ws := Cond.code y cc maxL ret :: xWs) h _ List.mem_cons_self)
    exact ⟨meth, c, h1, h2, h3, h4, h5, h6⟩
  · intro p e s m args below meth c s₁ B hml hP _
    obtain ⟨⟨rfl, hP, hz, hB, hF⟩, hT⟩ := hP
    have hts := atoms_spec (ws := Cond.code y cc maxL ret :: xWs) B.pre
    have hc : xC p s m As.toArray meth c G maxL cc y.cls ret := ⟨B.exec, B.bytes, hml, findClass_of_methodNamed B.named, fun w hw => hts w (List.mem_cons_of_mem _ hw), hF, B.returns, B.notSynchronized, by rw [hz]; exact hB⟩
    obtain ⟨meth', c', h1, h2, -, -, -, -, h7, -⟩ := Cond.code_spec B.named (hts _ List.mem_cons_self)
    have X₀ := Stand.of_body B
    cases B.method.symm.trans h1
    have ec : c' = c := by
      have := X₀.code
      rw [h2] at this
      exact Option.some.inj this
    subst ec
    have hh0 : s₁.heap = s.heap := by rw [B.state]; rfl
    obtain ⟨t, a1, o, b1, b2, b3⟩ := body p e s m As.toArray below meth c' hc hT h7 s.heap [] _ hP hz va_S.rf (xL_entry hlen hL0) s₁ hh0 X₀
    rw [lg_entry_eq]
    exact ⟨t, o, a1, b1, b2, b3⟩
end
