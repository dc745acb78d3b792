/-! catching: the search for a handler, its classes cold or warm; the row of a call that throws and is caught -/
theorem x_go1 {Q : Handler → Pre} {E : CtlPost} {e : Env} {dd : Bool} {acts : List Action} {S : State} {f : JFrame} {a : Addr} {x : ExceptionTableEntry} {t : List ExceptionTableEntry} {k : ClassId} {cell : Cell} (hx : covers x f.pc = true) (h0 : x.catchType ≠ 0) (hl : S.vm.ClassLinks e.platform f.method.cls x.catchType k) (hcell : S.heap[a]? = some cell) (hobj : ∀ z, cell.vm ≠ .statics z) (hk : ∃ z, S.vm.classes[cell.cls]? = some z) :
    wp (findHandler.go f a (x :: t)) Q E e dd acts S ↔ if S.vm.assignable cell.cls k = true then Q (.found x.handlerPc) dd acts (S.setVm (S.vm.noted f.method.cls x.catchType (.cls k))) else wp (findHandler.go f a t) Q E e dd acts (S.setVm (S.vm.noted f.method.cls x.catchType (.cls k))) := by
  simp only [covers] at hx
  obtain ⟨r1, r2⟩ := (resolveClass_links e.toSetting hl).op (op := VmOp.resolveClass f.method.cls x.catchType) rfl
  have al : S.vm.Alike (S.vm.noted f.method.cls x.catchType (.cls k)) := (Vm.Alike.refl S.vm).noted _ _ _
  obtain ⟨z1, hz1⟩ := hk
  obtain ⟨-, -, -, z2, -, -, -, -, -, hz2, -, -⟩ := hl.here
  obtain ⟨z1', hz1', -⟩ := al.2.2 _ _ hz1
  obtain ⟨z2', hz2', -⟩ := al.2.2 _ _ hz2
  have ea := al.assignable cell.cls k
  cases hfit : S.vm.assignable cell.cls k with
  | true =>
    rw [hfit] at ea
    simp [findHandler.go, hx, h0, r1, r2, hcell, hobj, hz1', hz2', ea, VmOp.dirties, VmOp.acts]
  | false =>
    rw [hfit] at ea
    simp [findHandler.go, hx, h0, r1, r2, hcell, hobj, hz1', hz2', ea, VmOp.dirties, VmOp.acts]
/-- the table t catches an X that is thrown at pc, at tgt -/
def xCt (own X : String) (pc tgt : Nat) : List (Nat × Nat × Nat × Nat) → Prop
  | [] => False
  | (a, b, h, k) :: t => (a ≤ pc ∧ pc < b ∧ k ≠ 0) ∧ ((h = tgt ∧ Cond.classLink own k X ∈ xWs ∧ Cond.castable X X ∈ xTw) ∨ ∃ Z, Cond.classLink own k Z ∈ xWs ∧ (X, Z) ∈ xApart ∧ xCt own X pc tgt t)
theorem x_find {s : State} {args : Array Value} {e : Env} {G : xG} {own X : String} {f : JFrame} {a : Addr} {cell : Cell} {tgt : Nat} (hpl : e.platform.magicAccessors = ({} : Platform).magicAccessors) (hts : ∀ w ∈ xWs, w.before args s = true) (hT : xT G s) (hown : s.vm.findClass own = some f.method.cls) (hX : s.vm.findClass X = some cell.cls) (hobj : ∀ z, cell.vm ≠ .statics z) :
    ∀ (t : List ExceptionTableEntry) (S : State), xCt own X f.pc tgt (t.map (fun h => (h.startPc, h.endPc, h.handlerPc, h.catchType))) → s.WarmedH S.vm → S.heap[a]? = some cell →
      ∃ vm', s.WarmedH vm' ∧ ∀ (Q : Handler → Pre) (E : CtlPost) (d : Bool) (acts : List Action), wp (findHandler.go f a t) Q E e d acts S ↔ Q (.found tgt) d acts (S.setVm vm')
  | [], S, h, _, _ => h.elim
  | x :: t, S, h, hW, hcell => by
    obtain ⟨⟨c1, c2, c3⟩, h⟩ := h
    have hx : covers x f.pc = true := by simp [covers, c1, c2]
    have hk : ∃ z, S.vm.classes[cell.cls]? = some z := Vm.classAt_of_findClass (by rw [hW.alike.findClass]; exact hX)
    have lk : ∀ Z, Cond.classLink own x.catchType Z ∈ xWs → ∃ k, s.vm.findClass Z = some k ∧ S.vm.ClassLinks e.platform f.method.cls x.catchType k ∧ s.WarmedH (S.vm.noted f.method.cls x.catchType (.cls k)) := by
      intro Z hZ
      obtain ⟨k, k1, k2⟩ := Cond.classLink_spec hown (hts _ hZ) e.platform hpl
      obtain ⟨dk, -, -, -, hd, -, -, -, -, -, -, hopen⟩ := k2.here
      exact ⟨k, k1, hW.classLinks k2, hW.noted hd hopen (State.rightAt_cls k2)⟩
    rcases h with ⟨h1, h2, h3⟩ | ⟨Z, h2, h3, h4⟩
    · obtain ⟨k, k1, k2, k3⟩ := lk X h2
      have hz := hT.1 _ h3
      have hfit : S.vm.assignable cell.cls k = true := by
        have := va_Nw.use (A := args) rfl hz
        obtain ⟨c3, t3, w1, w2, w3⟩ := Cond.castable_spec this
        cases hX.symm.trans w1
        cases k1.symm.trans w2
        rw [hW.alike.assignable]; exact w3
      refine ⟨_, k3, fun Q E d acts => ?_⟩
      rw [x_go1 hx c3 k2 hcell hobj hk, if_pos hfit]
      show Q (.found x.handlerPc) _ _ _ ↔ _
      rw [show x.handlerPc = tgt from h1]
    · obtain ⟨k, k1, k2, k3⟩ := lk Z h2
      obtain ⟨x1, y1, w1, w2, w3⟩ := hT.2.2.2.2 _ h3
      cases hX.symm.trans w1
      cases k1.symm.trans w2
      have hno : S.vm.assignable cell.cls k = false := by rw [hW.alike.assignable]; exact w3
      obtain ⟨vm', v1, v2⟩ := x_find hpl hts hT hown hX hobj t (S.setVm (S.vm.noted f.method.cls x.catchType (.cls k))) h4 k3 hcell
      refine ⟨vm', v1, fun Q E d acts => ?_⟩
      rw [x_go1 hx c3 k2 hcell hobj hk, if_neg (by rw [hno]; decide)]
      exact v2 Q E d acts
theorem x_caught {tb : Tables} {e : Env} {T target : State} {g : JFrame} {c : Code} {below : List Frame} {a : Addr} (h : At T g.method c below) {tgt : Nat} {vm' : Vm}
    (hfind : ∀ (Q : Handler → Pre) (E : CtlPost) (d : Bool) (acts : List Action), wp (findHandler g a) Q E e d acts ((T.setTop g).pushFrame (.throwing a)) ↔ Q (.found tgt) d acts (((T.setTop g).pushFrame (.throwing a)).setVm vm'))
    (hrest : Steps tb e below ((T.setVm vm').setTop { g with pc := tgt, stack := [.ref a] }) target) : Steps tb e below ((T.setTop g).pushFrame (.throwing a)) target := by
  obtain ⟨hgo, hw⟩ := h.throwing a
  obtain ⟨g₀, hg⟩ := Option.isSome_iff_exists.mp h.top
  obtain ⟨r, hr⟩ := State.topJava?_eq_some.mp hg
  refine Steps.head hgo hw ?_
  have hs : (stepThrowing e ((T.setTop g).pushFrame (.throwing a)) a (.java g :: T.frames.tail)).Is ((((T.setTop g).pushFrame (.throwing a)).setVm vm').setFrames (.java { g with pc := tgt, stack := [.ref a] } :: T.frames.tail)) [] := by
    simp only [stepThrowing, searchFrame, vmDo]
    generalize hr : Sem.go _ e false [] ((T.setTop g).pushFrame (.throwing a)) = res
    obtain ⟨as, rfl, ha⟩ := Sem.eq_ok_of hr (a := Handler.found tgt) (s' := ((T.setTop g).pushFrame (.throwing a)).setVm vm') (acts' := []) (by simp [hfind])
    exact ⟨rfl, ha⟩
  rw [stepThread_throwing (frames_entered h.top _), hs.1]
  have hr' : (T.setVm vm').frames = .java g₀ :: r := hr
  rw [State.setTop_of_frames _ hr'] at hrest
  have e1 : ((((T.setTop g).pushFrame (.throwing a)).setVm vm').setFrames (.java { g with pc := tgt, stack := [.ref a] } :: T.frames.tail)) = (T.setVm vm').setFrames (.java { g with pc := tgt, stack := [.ref a] } :: r) := by
    rw [hr, List.tail_cons, State.setTop_of_frames _ hr]
    show (((T.setFrames (.java g :: r)).setFrames _).setVm vm').setFrames _ = _
    rw [State.setFrames_setFrames]
    show ((T.setVm vm').setFrames _).setFrames _ = _
    rw [State.setFrames_setFrames]
  rw [e1]
  exact hrest
section
variable {p : Program} {l : Launch} {e : Env} {R : Room} {s : State} {m : MethodId} {args : Array Value} {below : List Frame} {meth : Method} {c : Code} {Q : State → Prop} {G : xG} {nL : Nat} {cc : ByteArray} {own : String} {ret : Option FieldType} {hh : xH} {sz cells slots pc : Nat} {L : List (Option Value)} {rest : List Value}
/-- invokevirtual of a method of ours that throws an X; it is caught at tgt -/
theorem x_callT (hc : xC p s m args meth c G nL cc own ret) (hT : xT G s) {y : MethodName} {bytes : ByteArray} {maxL d mc ms n n' index b ci tgt : Nat} {rt : Option FieldType} {As st : List Value} {h' : xH} {X : String} {q : vw_C} {fs : List Value} {hs : List (Nat × Nat × Nat × Nat)} (hM : xX l G y bytes maxL rt d mc ms (.ref b :: As) hh sz X h' n') (hb : hh b = some (.inr (ci, fs))) (hcl : xCl[ci]? = some q) (hR : xR R d maxL) (hN : xN y n) (hlen : As.length = n) (hst : st = As.reverse ++ .ref b :: rest)
    (wc : Cond.code y bytes maxL rt ∈ xWs) (wi : Cond.initialized y.cls ∈ xWs) (wl : Cond.methodLink own index y ∈ xWs) (wm : Cond.instanceMethod y ∈ xWs) (wsel : Cond.selects q.1 y y ∈ xWs) (hroom : (rest.map fun v => v.category).sum ≤ 8) (hf : cells + mc ≤ R.cells ∧ slots + ms ≤ R.slots) (hdg : decode cc pc = .ok (.invokevirtual index, 3))
    (htab : c.exceptionTable.toList.map (fun h => (h.startPc, h.endPc, h.handlerPc, h.catchType)) = hs) (hct : xCt own X pc tgt hs)
    (kk : ∀ a, xW p l e R s m args below meth c G nL Q h' n' (cells + mc) (slots + ms) tgt L [.ref a]) : xW p l e R s m args below meth c G nL Q hh sz cells slots pc L st := by
  intro H locs ls hP hz hS hL T hTH X0
  obtain ⟨q', h1, cellB, g1, g2, g3, -⟩ := (hP b _ hb).2
  cases h1.symm.trans hcl
  subst hst
  have hcls : s.vm.findClass q.1 = some cellB.cls := by rw [g2]; exact (hc.K.1 ci _ hcl).2.1
  obtain ⟨mk, methM, hnamed, hmethM, hstM, habM⟩ := Cond.instanceMethod_spec (hc.ts _ wm)
  obtain ⟨methM', cM, hmethM', -, -, -, -, -, -, hsigM⟩ := Cond.code_spec hnamed (hc.ts _ wc)
  cases hmethM.symm.trans hmethM'
  obtain ⟨c2, r2, m2, q1, q2, q3, q4, kP, hkP, hkPi⟩ := Cond.selects_spec (hc.ts _ wsel)
  cases hcls.symm.trans q1
  cases (State.methodFound?_of_named hnamed ⟨hN.1, hN.2.1⟩).symm.trans q2
  cases hnamed.symm.trans q3
  have hselP : selectMethod e.platform s.vm cellB.cls mk = .method mk := by rw [Launch.admits_selectMethod X0.admits]; exact q4
  have hlenM : As.length = methM.sig.parameters.length := by
    have := hN.2.2
    rw [hsigM] at this
    rw [hlen]
    exact (Option.some.inj this).symm
  obtain ⟨vm₁, X₁, hstep₁⟩ := X0.invokevirtual hc.1 hc.ow (hc.ts _ wl) hnamed hmethM hstM hkP hkPi ⟨hN.1, hN.2.1⟩ (a := b) (cell := cellB) (by rw [hTH]; exact g1) (fun z h => by rw [g3] at h; cases h) hselP hmethM habM hkP hkPi (g := F0 m pc ls (As.reverse ++ .ref b :: rest)) rfl (argsL := As) (rest := rest) hlenM rfl (by rw [hc.2.1]; exact hdg)
  -- the call
  have hpay : ∀ w ∈ (Cond.code y bytes maxL rt :: xWs), ∀ (a' : Array Value) (U : State), s.WarmedH U.vm → w.before a' U = true := pay_in hc.ts (xGood wc)
  have hn1 : (T.setVm vm₁).methodNamed? y = some mk := X₁.named hnamed
  obtain ⟨methY, cY, hmY, hcY, -, hlY, -⟩ := Cond.code_spec hn1 (hpay _ List.mem_cons_self (Value.ref b :: As).toArray _ X₁.warmed)
  obtain ⟨kY, hkY, -⟩ := className_of_methodNamed hn1
  have hinitY : kY.init = .initialized := Cond.initialized_spec (findClass_of_methodNamed hn1) hkY (hpay _ (List.mem_cons_of_mem _ wi) (Value.ref b :: As).toArray _ X₁.warmed)
  have hsize : (F0 m pc ls rest).locals.size = c.maxLocals := hL.1.trans hc.2.2.1.symm
  have hmon : 2 * (F0 m pc ls rest).monitorRoom + (rest.map fun v => v.category).sum ≤ 8 := lv_room hroom
  have h : At (T.setVm vm₁) (F0 m pc ls rest).method c below := X₁.here
  have happ : (headSpec (Cond.code y bytes maxL rt :: xWs) { frames := d, cells := mc, slots := ms, locals := 48 * d }).appliesLoose y e.platform ((T.setVm vm₁).calling (F0 m pc ls rest) mk (Value.ref b :: As).toArray) = true :=
    Spec.appliesLoose_calling (g := F0 m pc ls rest) h (by rw [hc.2.1]; exact hdg) hn1 hkY hinitY
      (X₁.room_calling (g := F0 m pc ls rest) (R' := { frames := d, cells := mc, slots := ms, locals := 48 * d }) hsize hmY hcY hR.1 (by rw [hlY]; have := hR.2; simp only at hmon ⊢; omega) hf.1 hf.2) (atoms_intro fun w hw => hpay w hw _ _ X₁.warmed)
  obtain ⟨mid, hmid⟩ := h.above
  have hfr : ((T.setVm vm₁).setTop (F0 m pc ls rest)).frames = (.java (F0 m pc ls rest) :: mid) ++ below := by rw [State.frames_setTop' _ h.top, hmid]; rfl
  have hpre : (fun (a : Array Value) (U : State) => xPc G (Value.ref b :: As) hh sz a U ∧ xT G U) (Value.ref b :: As).toArray ((T.setVm vm₁).calling (F0 m pc ls rest) mk (Value.ref b :: As).toArray) := by
    have e0 := xpre (As := Value.ref b :: As) hc hP hz hS (T.setVm vm₁) hTH X₁.warmed
    have e1 : xT G (T.setVm vm₁) := hT.step X₁.warmed hS hTH
    exact ⟨xPc.blind _ _ _ _ e0, xT.same (u := T.setVm vm₁) rfl rfl e1⟩
  obtain ⟨o, s₂, hsteps, -, hend, hq⟩ := Steps.callFree hM p X₁.admits X₁.cas X₁.clock (acts := []) hfr happ hpre trivial
  have hq : xQx G X h' n' mc ms (Value.ref b :: As).toArray ((T.setVm vm₁).calling (F0 m pc ls rest) mk (Value.ref b :: As).toArray) o s₂ := hq
  obtain ⟨⟨ax, ce, rfl, hce, hcX, hcv⟩, hP2, hz2, hF2, hW2, L2, hsame, hL2⟩ := hq
  rw [State.frames_setTop' _ h.top] at hend
  have hend : s₂.frames = .throwing ax :: .java (F0 m pc ls rest) :: (T.setVm vm₁).frames.tail := hend
  obtain ⟨b1, b2, b3, b4, b5, b6⟩ := hsame
  have hW' : (T.setVm vm₁).WarmedH s₂.vm := hW2
  obtain ⟨g₀, hg0⟩ := Option.isSome_iff_exists.mp h.top
  obtain ⟨r, hr⟩ := State.topJava?_eq_some.mp hg0
  have e3 : s₂ = ({ ((T.setVm vm₁).calling (F0 m pc ls rest) mk (Value.ref b :: As).toArray).setFrames s₂.frames with heap := s₂.heap, slotsUsed := s₂.slotsUsed } : State).setVm s₂.vm := by
    have : s₂ = ({ s₂ with vm := ((T.setVm vm₁).calling (F0 m pc ls rest) mk (Value.ref b :: As).toArray).vm } : State).setVm s₂.vm := rfl
    rw [b1] at this
    exact this
  have hsame1 : (T.setVm vm₁).sameButNew ({ T.setVm vm₁ with heap := s₂.heap, slotsUsed := s₂.slotsUsed } : State) L2 mc ms := by
    refine ⟨?_, b2, b3, b4, b5, b6⟩
    obtain ⟨t, ht, -⟩ := State.frames_cons hr
    show ({ T.setVm vm₁ with heap := s₂.heap, slotsUsed := s₂.slotsUsed } : State) = { (T.setVm vm₁).setFrames (T.setVm vm₁).frames with heap := s₂.heap, slotsUsed := s₂.slotsUsed }
    rw [State.setFrames_self ht]
  have X₂ : Stand p l e R s m args below meth c (({ T.setVm vm₁ with heap := s₂.heap, slotsUsed := s₂.slotsUsed } : State).setVm s₂.vm) (locs ++ L2) (cells + mc) (slots + ms) := ⟨X₁.admits, X₁.cas, X₁.clock, X₁.frames, X₁.room, X₁.hears, X₁.method, X₁.code, (X₁.here.setHeapUsed s₂.heap s₂.slotsUsed).setVm hW'.alike, X₁.tail, State.WarmedH.trans X₁.warmed hW', X₁.limits, X₁.bytes, X₁.same.trans (hsame1.setVm s.vm)⟩
  generalize hU : (({ T.setVm vm₁ with heap := s₂.heap, slotsUsed := s₂.slotsUsed } : State).setVm s₂.vm) = U at X₂
  have hUh : U.heap = s₂.heap := by rw [← hU]; rfl
  have hUv : U.vm = s₂.vm := by rw [← hU]; rfl
  have hUf : U.frames = .java g₀ :: r := by rw [← hU]; exact hr
  have hs₂ : s₂ = (U.setTop (F0 m pc ls rest)).pushFrame (.throwing ax) := by
    have hcur : U.cur < U.threads.size := State.cur_lt_of_frames hUf
    rw [State.setTop_of_frames _ hUf]
    show s₂ = (U.setFrames _).setFrames (.throwing ax :: (U.setFrames _).frames)
    rw [State.frames_setFrames _ hcur, State.setFrames_setFrames]
    refine e3.trans ?_
    rw [hend, State.calling_eq h.top, State.setFrames_setFrames, ← hU, hr]
    rfl
  obtain ⟨vm', hV, hfind⟩ := x_find (s := s) (args := args) (e := e) (G := G) (own := own) (X := X) (f := F0 m pc ls rest) (a := ax) (cell := ce) (tgt := tgt) (by rw [X₂.admits.platform]) hc.ts hT hc.ow (by have h9 : (T.setVm vm₁).vm.findClass X = some ce.cls := hcX; rw [X₁.warmed.alike.findClass] at h9; exact h9) (fun z hz => by rw [hcv] at hz; cases hz) c.exceptionTable.toList ((U.setTop (F0 m pc ls rest)).pushFrame (.throwing ax)) (by rw [htab]; exact hct) (by rw [← hs₂]; exact State.WarmedH.trans X₁.warmed hW') (by rw [← hs₂]; exact hce)
  have X₃ := X₂.noted hV
  have hS' : va_S (xA G) s.heap (U.setVm vm').heap (locs ++ L2) := by
    obtain ⟨f1, f2⟩ := hF2
    have f1 : T.heap.size ≤ s₂.heap.size := f1
    have f2 : ∀ q : Nat, q < T.heap.size → ¬ xA G q → s₂.heap[q]? = T.heap[q]? := f2
    rw [hTH] at f1 f2
    have eU : (U.setVm vm').heap = s₂.heap := hUh
    rw [eU]
    refine ⟨Nat.le_trans hS.1 f1, fun q k1 k2 => ?_, fun q hq => ?_⟩
    · rw [f2 q (Nat.lt_of_lt_of_le k1 hS.1) k2]; exact hS.2.1 q k1 k2
    · rcases List.mem_append.mp hq with h | h
      · exact hS.2.2 q h
      · exact hL2 q h
  obtain ⟨t, k1, k2⟩ := kk ax (U.setVm vm').heap (locs ++ L2) ls (by show xP G h' U.heap; rw [hUh]; exact hP2) (by show U.heap.size = n'; rw [hUh]; exact hz2) hS' hL (U.setVm vm') rfl X₃
  refine ⟨t, hstep₁ _ fun acts => ?_, k2⟩
  rw [doInvoke_state]
  refine hsteps.trans ?_
  rw [hs₂]
  refine x_caught (g := F0 m pc ls rest) X₂.here (vm' := vm') (tgt := tgt) (fun Q E d acts => ?_) k1
  rw [W.findHandler_eq (meth := meth) (code := c) X₂.method' X₂.code]
  exact hfind Q E d acts
end
