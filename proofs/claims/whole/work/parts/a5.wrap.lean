/-! the law's wrappers: contracts of methods with an exception table; the out array; which errors a method throws -/
/-- y's contract, of a method with an exception table -/
def xMW (l : Launch) (G : xG) (y : MethodName) (cc : ByteArray) (maxL : Nat) (ret : Option FieldType) (hs : List (Nat × Nat × Nat × Nat)) (d mc ms : Nat) (As : List Value) (h : xH) (n : Nat) (r : Option Value) (h' : xH) (n' : Nat) : Prop :=
  Met l y (Cond.codeWith y cc maxL ret hs :: xWs) { frames := d, cells := mc, slots := ms, locals := 48 * d } (fun a U => xPc G As h n a U ∧ xT G U) (xQc G r h' n') mc ms (xA G)
section
variable {p : Program} {l : Launch} {e : Env} {R : Room} {s : State} {m : MethodId} {args : Array Value} {below : List Frame} {meth : Method} {c : Code} {Q : State → Prop} {G : xG} {nL : Nat} {cc : ByteArray} {own : String} {ret : Option FieldType} {hh : xH} {sz cells slots pc : Nat} {L : List (Option Value)} {rest st : List Value}
theorem xMW.of {y : MethodName} {maxL d mc ms n n' k : Nat} {As : List Value} {h h' : xH} {r : Option Value} {hs : List (Nat × Nat × Nat × Nat)} {L0 : List (Option Value)} (hy : plainName y.cls = true) (hlen : (lg_sl As).length ≤ maxL) (hL0 : xent As ++ List.replicate k none = L0)
    (body : ∀ (p : Program) (e : Env) (s : State) (m : MethodId) (args : Array Value) (below : List Frame) (meth : Method) (c : Code), xC p s m args meth c G maxL cc y.cls ret → xT G s → c.exceptionTable.toList.map (fun h => (h.startPc, h.endPc, h.handlerPc, h.catchType)) = hs → xW p l e { frames := d, cells := mc, slots := ms, locals := 48 * d } s m args below meth c G maxL (MQ below (xQc G r h' n') args s mc ms (xA G)) h n 0 0 0 L0 []) : xMW l G y cc maxL ret hs d mc ms As h n r h' n' := by
  refine va_MetW (cc := cc) (maxL := maxL) (ret := ret) (hh := hs) hy rfl ?_
  intro p e s m args below meth c s₁ B hml hv
  obtain ⟨⟨rfl, hP, hz, hB, hF⟩, hT⟩ := hv
  have hts := atoms_spec (ws := Cond.codeWith y cc maxL ret hs :: xWs) B.pre
  have hc : xC p s m As.toArray meth c G maxL cc y.cls ret := ⟨B.exec, B.bytes, hml, findClass_of_methodNamed B.named, fun w hw => hts w (List.mem_cons_of_mem _ hw), hF, B.returns, B.notSynchronized, by rw [hz]; exact hB⟩
  obtain ⟨m9, meth', c', h0, h1, h2, -, -, h5, -⟩ := Cond.codeWith_spec (hts _ List.mem_cons_self)
  cases B.named.symm.trans h0
  cases B.method.symm.trans h1
  have ec : c' = c := by
    have := (Stand.of_body B).code
    rw [h2] at this
    exact Option.some.inj this
  subst ec
  rw [lg_entry_eq]
  exact body p e s m As.toArray below meth c' hc hT h5 s.heap [] _ hP hz va_S.rf (xL_entry hlen hL0)
/-- invokestatic of such a method -/
theorem x_callSW (hc : xC p s m args meth c G nL cc own ret) (hT : xT G s) {y : MethodName} {bytes : ByteArray} {maxL d mc ms n n' index : Nat} {rt : Option FieldType} {hs : List (Nat × Nat × Nat × Nat)} {As : List Value} {h' : xH} {r : Option Value} (hM : xMW l G y bytes maxL rt hs d mc ms As hh sz r h' n') (hR : xR R d maxL) (hN : xN y n) (hlen : As.length = n) (hst : st = As.reverse ++ rest)
    (wc : Cond.codeWith y bytes maxL rt hs ∈ xWs) (wi : Cond.initialized y.cls ∈ xWs) (wl : Cond.methodLink own index y ∈ xWs) (wm : Cond.static y ∈ xWs) (hroom : (rest.map fun v => v.category).sum ≤ 8) (hf : cells + mc ≤ R.cells ∧ slots + ms ≤ R.slots) (hdg : decode cc pc = .ok (.invokestatic index, 3))
    (kk : xW p l e R s m args below meth c G nL Q h' n' (cells + mc) (slots + ms) (pc + 3) L (r.toList ++ rest)) : xW p l e R s m args below meth c G nL Q hh sz cells slots pc L st := by
  intro H locs ls hP hz hS hL
  subst hst
  have hpay : ∀ w ∈ (Cond.codeWith y bytes maxL rt hs :: xWs), ∀ (a' : Array Value) (U : State), s.WarmedH U.vm → w.before a' U = true := pay_in hc.ts (xGood wc)
  have hbl : FrameBlind (fun a U => xPc G As hh sz a U ∧ xT G U) := fun a U g mk q => ⟨xPc.blind _ _ _ _ q.1, xT.same (u := U) rfl rfl q.2⟩
  have hK : Back l R p e below s args y 3 8 (PreOf R mc ms (fun a U => xPc G As hh sz a U ∧ xT G U)) (PostOf (xQc G r h' n') mc ms (xA G)) := va_backW (hh := hs) (bytes := bytes) (maxL := maxL) (ret := rt) hM hbl rfl rfl hR.1 hR.2 hpay List.mem_cons_self (fun a' U hW => hpay _ (List.mem_cons_of_mem _ wi) a' U hW)
  refine x_of_run (a := As.toArray) (mc := mc) (ms := ms) (fun T hTH X => ?_) hS hL kk
  obtain ⟨mk, methM, cM, hnamed, hmethM, -, -, -, -, -, -, hsigM⟩ := Cond.codeWith_spec (hc.ts _ wc)
  have hstatic : methM.isStatic = true := Cond.static_spec hnamed hmethM (hc.ts _ wm)
  obtain ⟨kP, hkP, -⟩ := className_of_methodNamed hnamed
  have hinitP : kP.init = .initialized := Cond.initialized_spec (findClass_of_methodNamed hnamed) hkP (hc.ts _ wi)
  have hlenM : As.length = methM.sig.parameters.length := by
    have := hN.2.2
    rw [hsigM] at this
    rw [hlen]
    exact (Option.some.inj this).symm
  obtain ⟨vm₁, X₁, hstep₁⟩ := X.invokestatic hc.1 hc.ow (hc.ts _ wl) hnamed hmethM hstatic hkP hinitP ⟨hN.1, hN.2.1⟩ (g := F0 m pc ls (As.reverse ++ rest)) rfl (argsL := As) (rest := rest) hlenM rfl (by rw [hc.2.1]; exact hdg)
  obtain ⟨v, ⟨U', l2, c2, s2⟩, X', ⟨g', mk', t, L', e1, e2, hq, h1, hL', h2, h3⟩, hsteps⟩ := hK m meth c ⟨T.setVm vm₁, locs, cells, slots⟩ (F0 m pc ls rest) (.invokestatic index) mk As.toArray X₁ rfl (hL.1.trans hc.2.2.1.symm) (by rw [hc.2.1]; exact hdg) (lv_room hroom) (X₁.named hnamed) ⟨hf.1, hf.2, xpre (As := As) hc hP hz hS (T.setVm vm₁) hTH X₁.warmed, hT.step X₁.warmed hS hTH⟩
  dsimp only [Pt.U, Pt.locs, Pt.cells, Pt.slots] at X' e1 e2 h1 h2 h3 hsteps
  subst h1; subst h2; subst h3
  exact ⟨v, (T.setVm vm₁).calling g' mk' As.toArray, t, U', L', hTH, X', hL', e1, e2, hq, fun target h => hstep₁ _ fun acts => by rw [doInvoke_state]; exact hsteps.trans h⟩
theorem x_widen {k n : Nat} (h1 : cells ≤ k) (h2 : slots ≤ n) (kk : xW p l e R s m args below meth c G nL Q hh sz k n pc L st) : xW p l e R s m args below meth c G nL Q hh sz cells slots pc L st := fun H locs ls hP hz hS hL => W.widen h1 h2 (kk H locs ls hP hz hS hL)
/-- fewer cells -/
theorem x_less {hh2 : xH} (h : ∀ a e, hh2 a = some e → hh a = some e) (kk : xW p l e R s m args below meth c G nL Q hh2 sz cells slots pc L st) : xW p l e R s m args below meth c G nL Q hh sz cells slots pc L st := fun H locs ls hP hz hS hL => kk H locs ls (fun a x hx => hP a x (h a x hx)) hz hS hL
end
/-- the law's layout: the out array lies at o, among the cells that the memory doesn't speak of -/
def yO (G : xG) (kk bs : Nat → Nat) (o : Nat) (f : Nat → Int64) : xY := (fun q => if q = o then some (.inl (gZ G 3, 1, .inr (.inl f))) else none, kk, bs)
theorem cO {G : xG} {kk bs : Nat → Nat} {o : Nat} {f : Nat → Int64} {M : xMem} (ho : kk o = 0) : xo G (yO G kk bs o f) M o = some (.inl (gZ G 3, 1, .inr (.inl f))) := by
  have e1 : (yO G kk bs o f).2.1 o = 0 := ho
  unfold xo xcell
  rw [e1]
  exact if_pos rfl
theorem cO_ne {G : xG} {kk bs : Nat → Nat} {o q : Nat} {f f' : Nat → Int64} {M : xMem} (h : q ≠ o) : xo G (yO G kk bs o f) M q = xo G (yO G kk bs o f') M q := by
  have e1 : (yO G kk bs o f).2 = (yO G kk bs o f').2 := rfl
  have e2 : (yO G kk bs o f).1 q = (yO G kk bs o f').1 q := (if_neg h).trans (if_neg h).symm
  unfold xo xcell
  rw [e1, e2]
theorem wO {G : xG} {kk bs : Nat → Nat} {o : Nat} {f f' : Nat → Int64} {M : xMem} (ho : kk o = 0) : xu (xo G (yO G kk bs o f) M) o (.inl (gZ G 3, 1, .inr (.inl f'))) = xo G (yO G kk bs o f') M := by
  funext q
  by_cases h : q = o
  · subst h; rw [xu_s, cO ho]
  · rw [xu_n _ _ h, cO_ne h]
/-- which errors -/
def xE (S : Nat → Prop) (o : Option ((Int32 ⊕ Nat) × xMem)) : Prop := ∀ er M', o = some (.inr er, M') → S er
theorem xE.n {S : Nat → Prop} : xE S none := fun er M' h => by cases h
theorem xE.l {S : Nat → Prop} {v : Int32} {M : xMem} : xE S (some (.inl v, M)) := fun er M' h => by cases h
theorem xE.r {S : Nat → Prop} {k : Nat} {M : xMem} (hk : S k) : xE S (some (.inr k, M)) := fun er M' h => by cases h; exact hk
theorem xE.b {S : Nat → Prop} {α : Type} {o : Option (α × xMem)} {k : α → xMem → Option ((Int32 ⊕ Nat) × xMem)} (h : ∀ x M, xE S (k x M)) : xE S (xbind o k) := fun er M' e => by
  obtain ⟨x, M, -, e⟩ := xbind_some e
  exact h x M er M' e
theorem xE.s {S : Nat → Prop} {b x : Nat} {k : Nat → Option ((Int32 ⊕ Nat) × xMem)} (h : ∀ z, xE S (k z)) : xE S (xsrc b x k) := fun er M' e => by
  obtain ⟨z, -, -, e⟩ := xsrc_some e
  exact h z er M' e
theorem xE.v {S : Nat → Prop} {α : Type} {v : α} {k : α → Option ((Int32 ⊕ Nat) × xMem)} (h : ∀ z, xE S (k z)) : xE S (xval v k) := fun er M' e => by
  obtain ⟨z, -, e⟩ := xval_ex e
  exact h z er M' e
theorem xE.m {S : Nat → Prop} {M : xMem} {k : xMem → Option ((Int32 ⊕ Nat) × xMem)} (h : xE S (k M)) : xE S (xlet M k) := fun er M' e => h er M' (xlet_some e)
theorem xE.i {S : Nat → Prop} {q : Prop} {hd : Decidable q} {x y : Option ((Int32 ⊕ Nat) × xMem)} (h1 : q → xE S x) (h2 : ¬ q → xE S y) : xE S (@ite _ q hd x y) := by
  by_cases h : q
  · rw [if_pos h]; exact h1 h
  · rw [if_neg h]; exact h2 h
theorem e_D_write_55 (b : Nat) (p1 : Int64) : ∀ (n : Nat) (v3 v4 : Int32) (M : xMem), xE (fun e => e = 0 ∨ e = 2) (f_D_write_55 b p1 n v3 v4 M)
  | 0, _, _, _ => xE.n
  | n + 1, v3, v4, M => by
    simp only [f_D_write_55]
    exact xE.i (fun _ => xE.l) (fun _ => xE.b (fun _ _ => xE.b (fun _ _ => e_D_write_55 b p1 n v3 _ _)))
theorem e_D_write {b : Nat} {p1 : Int64} {M : xMem} : xE (fun e => e = 0 ∨ e = 2) (f_D_write b p1 M) := by
  unfold f_D_write f_D_write_17
  repeat (first | with_reducible exact xE.n | with_reducible exact xE.l | with_reducible exact xE.r (by decide) | with_reducible exact e_D_write_55 _ _ _ _ _ _ | with_reducible refine xE.b (fun _ _ => ?_) | with_reducible refine xE.s (fun _ => ?_) | with_reducible refine xE.v (fun _ => ?_) | with_reducible refine xE.m ?_ | with_reducible refine xE.i (fun _ => ?_) (fun _ => ?_))
theorem e_D_read {b : Nat}  {M : xMem} : xE (fun e => e = 0) (f_D_read b M) := by
  unfold f_D_read
  repeat (first | with_reducible exact xE.n | with_reducible exact xE.l | with_reducible exact xE.r (by decide) | with_reducible refine xE.b (fun _ _ => ?_) | with_reducible refine xE.s (fun _ => ?_) | with_reducible refine xE.v (fun _ => ?_) | with_reducible refine xE.m ?_ | with_reducible refine xE.i (fun _ => ?_) (fun _ => ?_))
theorem e_D_rule {b : Nat} {p1 : Int32} {p2 : Int32} {M : xMem} : xE (fun e => e = 0) (f_D_rule b p1 p2 M) := by
  unfold f_D_rule f_D_rule_10
  repeat (first | with_reducible exact xE.n | with_reducible exact xE.l | with_reducible exact xE.r (by decide) | with_reducible refine xE.b (fun _ _ => ?_) | with_reducible refine xE.s (fun _ => ?_) | with_reducible refine xE.v (fun _ => ?_) | with_reducible refine xE.m ?_ | with_reducible refine xE.i (fun _ => ?_) (fun _ => ?_))
theorem e_D_give {b : Nat} {p1 : Int64} {M : xMem} : xE (fun e => e = 0 ∨ e = 1 ∨ e = 2) (f_D_give b p1 M) := by
  unfold f_D_give f_D_give_31
  repeat (first | with_reducible exact xE.n | with_reducible exact xE.l | with_reducible exact xE.r (by decide) | with_reducible refine xE.b (fun _ _ => ?_) | with_reducible refine xE.s (fun _ => ?_) | with_reducible refine xE.v (fun _ => ?_) | with_reducible refine xE.m ?_ | with_reducible refine xE.i (fun _ => ?_) (fun _ => ?_))
theorem e_D_found {b : Nat} {p1 : Int32} {M : xMem} : xE (fun e => e = 2) (f_D_found b p1 M) := by
  unfold f_D_found
  repeat (first | with_reducible exact xE.n | with_reducible exact xE.l | with_reducible exact xE.r (by decide) | with_reducible refine xE.b (fun _ _ => ?_) | with_reducible refine xE.s (fun _ => ?_) | with_reducible refine xE.v (fun _ => ?_) | with_reducible refine xE.m ?_ | with_reducible refine xE.i (fun _ => ?_) (fun _ => ?_))
theorem e_D_place {b : Nat} {p1 : Int32} {M : xMem} : xE (fun e => e = 2) (f_D_place b p1 M) := by
  unfold f_D_place
  repeat (first | with_reducible exact xE.n | with_reducible exact xE.l | with_reducible exact xE.r (by decide) | with_reducible refine xE.b (fun _ _ => ?_) | with_reducible refine xE.s (fun _ => ?_) | with_reducible refine xE.v (fun _ => ?_) | with_reducible refine xE.m ?_ | with_reducible refine xE.i (fun _ => ?_) (fun _ => ?_))
theorem e_D_letter {b : Nat} {p1 : Int32} {M : xMem} : xE (fun e => e = 2) (f_D_letter b p1 M) := by
  unfold f_D_letter f_D_letter_18
  repeat (first | with_reducible exact xE.n | with_reducible exact xE.l | with_reducible exact xE.r (by decide) | with_reducible refine xE.b (fun _ _ => ?_) | with_reducible refine xE.s (fun _ => ?_) | with_reducible refine xE.v (fun _ => ?_) | with_reducible refine xE.m ?_ | with_reducible refine xE.i (fun _ => ?_) (fun _ => ?_))
theorem e_D_declared {b : Nat} {p1 : Int32} {p2 : Int32} {M : xMem} : xE (fun e => e = 0 ∨ e = 2) (f_D_declared b p1 p2 M) := by
  unfold f_D_declared f_D_declared_20
  repeat (first | with_reducible exact xE.n | with_reducible exact xE.l | with_reducible exact xE.r (by decide) | with_reducible refine xE.b (fun _ _ => ?_) | with_reducible refine xE.s (fun _ => ?_) | with_reducible refine xE.v (fun _ => ?_) | with_reducible refine xE.m ?_ | with_reducible refine xE.i (fun _ => ?_) (fun _ => ?_))
theorem e_D_count {b : Nat} {p1 : Int32} {M : xMem} : xE (fun e => e = 0) (f_D_count b p1 M) := by
  unfold f_D_count
  repeat (first | with_reducible exact xE.n | with_reducible exact xE.l | with_reducible exact xE.r (by decide) | with_reducible refine xE.b (fun _ _ => ?_) | with_reducible refine xE.s (fun _ => ?_) | with_reducible refine xE.v (fun _ => ?_) | with_reducible refine xE.m ?_ | with_reducible refine xE.i (fun _ => ?_) (fun _ => ?_))
