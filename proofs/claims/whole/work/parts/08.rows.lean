/-! rows for the printed functions -/
theorem xd {c : ByteArray} {t : List (Nat × Instr × Nat)} (h : xDec c t = true) (i : Nat) {pc n : Nat} {ins : Instr} (hq : t[i]? = some (pc, ins, n)) : decode c pc = .ok (ins, n) := by
  have h2 := xDec_at (q := (pc, ins, n)) h i hq
  dsimp only at h2
  exact h2
def xval {α β : Type} (v : α) (k : α → Option β) : Option β := k v
theorem xval_some {α β : Type} {v : α} {k : α → Option β} {y : β} (h : xval v k = some y) : k v = some y := h
theorem xval_ex {α β : Type} {v : α} {k : α → Option β} {y : β} (h : xval v k = some y) : ∃ x, x = v ∧ k x = some y := ⟨v, rfl, h⟩
/-- the room that a method of depth d has -/
def xRm (R : Room) (d : Nat) : Prop := d ≤ R.frames ∧ 48 * d ≤ R.locals
theorem xRm.call {R : Room} {d d' maxL : Nat} (h : xRm R d) (h1 : d' + 1 ≤ d) (h2 : maxL ≤ 29) : xR R d' maxL := ⟨Nat.le_trans h1 h.1, by have := h.2; omega⟩
theorem xRd.ar {Y : xY} {b t n : Nat} (h : xRd Y b) (i : Nat) (hi : i < 31) (e : xar (xrdK.getD i 0) = some (t, n)) : xar (Y.2.1 (b + i)) = some (t, n) := by rw [h.k i hi]; exact e
theorem xRd.al {Y : xY} {b n : Nat} (h : xRd Y b) (i : Nat) (hi : i < 31) (e0 : xar (xrdK.getD i 0) = none) (e : xal (xrdK.getD i 0) = some n) : xar (Y.2.1 (b + i)) = none ∧ xal (Y.2.1 (b + i)) = some n := by rw [h.k i hi]; exact ⟨e0, e⟩
theorem xMd.ar {Y : xY} {b t n : Nat} (h : xMd Y b) (i : Nat) (hi : i < 42) (e : xar (xmdK.getD i 0) = some (t, n)) : xar (Y.2.1 (b + i)) = some (t, n) := by rw [h.k i hi]; exact e
theorem xLt.ar {Y : xY} {b : Nat} (h : xLt Y b) : xar (Y.2.1 (b + 1)) = some (1, 160) := by rw [h.2.1]; rfl
theorem xSg.ar {Y : xY} {b : Nat} (h : xSg Y b) : xar (Y.2.1 (b + 1)) = none ∧ xal (Y.2.1 (b + 1)) = some 8 := by rw [h.2.1]; exact ⟨rfl, rfl⟩
section X8
variable {p : Program} {l : Launch} {e : Env} {R : Room} {s : State} {m : MethodId} {args : Array Value} {below : List Frame} {meth : Method} {c : Code} {Q : State → Prop} {G : xG} {nL : Nat} {cc : ByteArray} {own : String} {ret : Option FieldType} {hh : xH} {sz cells slots pc : Nat} {L : List (Option Value)} {rest st : List Value}
/-- a local that is forgotten -/
theorem x_drop (i : Nat) (k : xW p l e R s m args below meth c G nL Q hh sz cells slots pc (L.set i none) st) : xW p l e R s m args below meth c G nL Q hh sz cells slots pc L st := by
  intro H locs ls hP hz hS hL
  refine k H locs ls hP hz hS ⟨hL.1, hL.2.1, fun j v hj => hL.2.2 j v ?_⟩
  by_cases e : j = i
  · subst e
    rw [List.getElem?_set] at hj
    simp at hj
  · rwa [List.getElem?_set_ne (Ne.symm e)] at hj
theorem x_tok_eq (hc : xC p s m args meth c G nL cc own ret) {x y : Nat} (hx : x < 28) (hy : y < 28) {off : Int} {tgt : Nat} (hdg : decode cc pc = .ok (.if_acmp .eq off, 3)) (ht : (pc : Int) + off = (tgt : Int)) (kt : x = y → xW p l e R s m args below meth c G nL Q hh sz cells slots tgt L rest) (kf : ¬ x = y → xW p l e R s m args below meth c G nL Q hh sz cells slots (pc + 3) L rest) : xW p l e R s m args below meth c G nL Q hh sz cells slots pc L (.ref (gE G y) :: .ref (gE G x) :: rest) :=
  x_acmp_eq hc (rx := some (gE G x)) (ry := some (gE G y)) hdg ht (fun q => kt (hc.F.2.2.2.1 x y hx hy (Option.some.inj q))) (fun q => kf (fun z => q (by rw [z])))
theorem x_tok_ne (hc : xC p s m args meth c G nL cc own ret) {x y : Nat} (hx : x < 28) (hy : y < 28) {off : Int} {tgt : Nat} (hdg : decode cc pc = .ok (.if_acmp .ne off, 3)) (ht : (pc : Int) + off = (tgt : Int)) (kt : ¬ x = y → xW p l e R s m args below meth c G nL Q hh sz cells slots tgt L rest) (kf : x = y → xW p l e R s m args below meth c G nL Q hh sz cells slots (pc + 3) L rest) : xW p l e R s m args below meth c G nL Q hh sz cells slots pc L (.ref (gE G y) :: .ref (gE G x) :: rest) :=
  x_acmp_ne hc (rx := some (gE G x)) (ry := some (gE G y)) hdg ht (fun q => kt (fun z => q (by rw [z]))) (fun q => kf (hc.F.2.2.2.1 x y hx hy (Option.some.inj q)))
end X8
section X9
variable {p : Program} {l : Launch} {e : Env} {R : Room} {s : State} {m : MethodId} {args : Array Value} {below : List Frame} {meth : Method} {c : Code} {Q : State → Prop} {G : xG} {nL : Nat} {cc : ByteArray} {own : String} {ret : Option FieldType} {hh : xH} {sz cells slots pc : Nat} {L : List (Option Value)} {rest st : List Value}
theorem xC.sT (hc : xC p s m args meth c G nL cc own ret) : xSt G s s.heap := hc.F.2.2.2.2.1
theorem xC.tk (hc : xC p s m args meth c G nL cc own ret) {k : Nat} (hk : k < 28) : xTk G k s s.heap := hc.sT.1 k hk
/-- an enum constant -/
theorem x_getsK (hc : xC p s m args meth c G nL cc own ret) (k : Nat) (hk : k < 28) {index : Nat} (hlink : Cond.fieldLink own index "LintDesk$Token" (xTokN.getD k "") "LLintDesk$Token;" ∈ xWs) (hdg : decode cc pc = .ok (.getstatic index, 3)) (kk : xW p l e R s m args below meth c G nL Q hh sz cells slots (pc + 3) L (.ref (gE G k) :: rest)) : xW p l e R s m args below meth c G nL Q hh sz cells slots pc L rest := fun H locs ls hP hz hS hL =>
  va_gets hc.1 hc.2.1 (hc.tk hk).1 hS hc.ow (hc.ts _ hlink) (fun x h => h) hdg (kk H locs ls hP hz hS hL)
theorem x_getsT (hc : xC p s m args meth c G nL cc own ret) {index : Nat} (hlink : Cond.fieldLink own index "LintDesk" "TOKENS" "[LLintDesk$Token;" ∈ xWs) (hdg : decode cc pc = .ok (.getstatic index, 3)) (kk : xW p l e R s m args below meth c G nL Q hh sz cells slots (pc + 3) L (.ref (gT G 0) :: rest)) : xW p l e R s m args below meth c G nL Q hh sz cells slots pc L rest := fun H locs ls hP hz hS hL =>
  va_gets hc.1 hc.2.1 hc.sT.2.1 hS hc.ow (hc.ts _ hlink) (fun x h => h) hdg (kk H locs ls hP hz hS hL)
theorem x_getsTN (hc : xC p s m args meth c G nL cc own ret) {index : Nat} {host : String} (hlink : Cond.fieldLinkNest own index "LintDesk" "TOKENS" "[LLintDesk$Token;" host ∈ xNw) (hdg : decode cc pc = .ok (.getstatic index, 3)) (kk : xW p l e R s m args below meth c G nL Q hh sz cells slots (pc + 3) L (.ref (gT G 0) :: rest)) : xW p l e R s m args below meth c G nL Q hh sz cells slots pc L rest := fun H locs ls hP hz hS hL =>
  va_getsN hc.1 hc.2.1 hc.sT.2.1 hS hc.ow (va_Nw.use rfl (hc.nw hlink)) (fun x h => h) hdg (kk H locs ls hP hz hS hL)
theorem x_getsW (hc : xC p s m args meth c G nL cc own ret) {index : Nat} (hlink : Cond.fieldLink own index "LintDesk$1" "$SwitchMap$LintDesk$Token" "[I" ∈ xWs) (hdg : decode cc pc = .ok (.getstatic index, 3)) (kk : xW p l e R s m args below meth c G nL Q hh sz cells slots (pc + 3) L (.ref (gT G 1) :: rest)) : xW p l e R s m args below meth c G nL Q hh sz cells slots pc L rest := fun H locs ls hP hz hS hL =>
  va_gets hc.1 hc.2.1 hc.sT.2.2.2.1 hS hc.ow (hc.ts _ hlink) (fun x h => h) hdg (kk H locs ls hP hz hS hL)
theorem x_getsC (hc : xC p s m args meth c G nL cc own ret) {index : Nat} (hlink : Cond.fieldLink own index "java/lang/String" "COMPACT_STRINGS" "Z" ∈ xWs) (hdg : decode cc pc = .ok (.getstatic index, 3)) (kk : xW p l e R s m args below meth c G nL Q hh sz cells slots (pc + 3) L (.int 1 :: rest)) : xW p l e R s m args below meth c G nL Q hh sz cells slots pc L rest := fun H locs ls hP hz hS hL =>
  va_gets hc.1 hc.2.1 hc.sT.2.2.2.2.2.1 hS hc.ow (hc.ts _ hlink) (fun x h => h) hdg (kk H locs ls hP hz hS hL)
/-- a static of which nothing is known but that it is null or a reference -/
theorem x_getsQ (hc : xC p s m args meth c G nL cc own ret) {index : Nat} (hlink : Cond.fieldLink own index "jdk/internal/util/Preconditions" "SIOOBE_FORMATTER" "Ljava/util/function/BiFunction;" ∈ xWs) (hdg : decode cc pc = .ok (.getstatic index, 3)) (kn : xW p l e R s m args below meth c G nL Q hh sz cells slots (pc + 3) L (.null :: rest)) (kr : ∀ t : Nat, xW p l e R s m args below meth c G nL Q hh sz cells slots (pc + 3) L (.ref t :: rest)) : xW p l e R s m args below meth c G nL Q hh sz cells slots pc L rest := fun H locs ls hP hz hS hL => by
  rcases hc.sT.2.2.2.2.2.2 with hZ | ⟨t, hZ⟩
  · exact va_gets hc.1 hc.2.1 hZ hS hc.ow (hc.ts _ hlink) (fun x h => h) hdg (kn H locs ls hP hz hS hL)
  · exact va_gets hc.1 hc.2.1 hZ hS hc.ow (hc.ts _ hlink) (fun x h => h) hdg (kr t H locs ls hP hz hS hL)
/-- the static array of the constants -/
theorem x_taald (hc : xC p s m args meth c G nL cc own ret) {i : Int32} (hin : vp_in i 28) (hdg : decode cc pc = .ok (.aaload, 1)) (kk : xW p l e R s m args below meth c G nL Q hh sz cells slots (pc + 1) L (.ref (gE G i.toNatClampNeg) :: rest)) : xW p l e R s m args below meth c G nL Q hh sz cells slots pc L (.int i :: .ref (gT G 0) :: rest) := fun H locs ls hP hz hS hL => by
  obtain ⟨cell, h1, h2, h3, h4, h5, h6, h7⟩ := hc.sT.2.2.1.kept (H1 := H) (fun a ha hn => hS.2.1 a ha hn)
  have hlt : i.toNatClampNeg < 28 := Nat.not_le.mp fun q => hin (Or.inr q)
  exact W.aald hc.1 hc.2.1 h1 h2 rfl h3 (fun z => z.elim (fun z => hin (Or.inl z)) (fun z => by omega)) (h6 _ hlt) rfl rfl hdg (kk H locs ls hP hz hS hL)
theorem x_tlen (hc : xC p s m args meth c G nL cc own ret) (hdg : decode cc pc = .ok (.arraylength, 1)) (kk : xW p l e R s m args below meth c G nL Q hh sz cells slots (pc + 1) L (.int 28 :: rest)) : xW p l e R s m args below meth c G nL Q hh sz cells slots pc L (.ref (gT G 0) :: rest) := fun H locs ls hP hz hS hL =>
  va_tlen hc.1 hc.2.1 hc.sT.2.2.1 hS (v := 28) (by decide) hdg (kk H locs ls hP hz hS hL)
theorem x_wald (hc : xC p s m args meth c G nL cc own ret) {i : Int32} (hin : vp_in i 28) (hdg : decode cc pc = .ok (.iaload, 1)) (kk : xW p l e R s m args below meth c G nL Q hh sz cells slots (pc + 1) L (.int (xSwM.getD i.toNatClampNeg 0) :: rest)) : xW p l e R s m args below meth c G nL Q hh sz cells slots pc L (.int i :: .ref (gT G 1) :: rest) := fun H locs ls hP hz hS hL =>
  va_ti hc.1 hc.2.1 hc.sT.2.2.2.2.1 hS hin rfl hdg (kk H locs ls hP hz hS hL)
/-- a field of a constant object -/
theorem x_getO (hc : xC p s m args meth c G nL cc own ret) {o n d : String} {v : Value} {t index : Nat} (hZ : va_OF o n d v t (xA G) s s.heap) (hlink : Cond.fieldLink own index o n d ∈ xWs) (hdg : decode cc pc = .ok (.getfield index, 3)) (kk : xW p l e R s m args below meth c G nL Q hh sz cells slots (pc + 3) L (v :: rest)) : xW p l e R s m args below meth c G nL Q hh sz cells slots pc L (.ref t :: rest) := fun H locs ls hP hz hS hL => by
  obtain ⟨cf, k, i, f, cell, hi, hst, hcell, hkn, hsl, hA⟩ := hZ
  have hH : H[t]? = some cell := by rw [hS.2.1 t (Array.getElem?_eq_some_iff.mp hcell).1 hA]; exact hcell
  exact W.getf hc.1 hc.2.1 hc.ow (hc.ts _ hlink) hi hst hH hkn hsl rfl rfl hdg (kk H locs ls hP hz hS hL)
theorem x_getON (hc : xC p s m args meth c G nL cc own ret) {o n d host : String} {v : Value} {t index : Nat} (hZ : va_OF o n d v t (xA G) s s.heap) (hlink : Cond.fieldLinkNest own index o n d host ∈ xNw) (hdg : decode cc pc = .ok (.getfield index, 3)) (kk : xW p l e R s m args below meth c G nL Q hh sz cells slots (pc + 3) L (v :: rest)) : xW p l e R s m args below meth c G nL Q hh sz cells slots pc L (.ref t :: rest) := fun H locs ls hP hz hS hL => by
  obtain ⟨cf, k, i, f, cell, hi, hst, hcell, hkn, hsl, hA⟩ := hZ
  have hH : H[t]? = some cell := by rw [hS.2.1 t (Array.getElem?_eq_some_iff.mp hcell).1 hA]; exact hcell
  exact va_Wgetf hc.1 hc.2.1 hc.ow (va_Nw.use rfl (hc.nw hlink)) hi hst hH hkn hsl rfl rfl hdg (kk H locs ls hP hz hS hL)
/-- a String's bytes -/
theorem x_slen (hc : xC p s m args meth c G nL cc own ret) {k : Nat} (hk : k < 28) (hdg : decode cc pc = .ok (.arraylength, 1)) (kk : xW p l e R s m args below meth c G nL Q hh sz cells slots (pc + 1) L (.int (nI (xTxt.getD k []).length) :: rest)) : xW p l e R s m args below meth c G nL Q hh sz cells slots pc L (.ref (gT G (2 + k)) :: rest) := fun H locs ls hP hz hS hL =>
  va_tlen hc.1 hc.2.1 (hc.tk hk).2.2.2.2.2.2.2.2.2.2 hS rfl hdg (kk H locs ls hP hz hS hL)
theorem x_sald (hc : xC p s m args meth c G nL cc own ret) {k : Nat} (hk : k < 28) {i : Int32} (hin : vp_in i (xTxt.getD k []).length) (hdg : decode cc pc = .ok (.baload, 1)) (kk : xW p l e R s m args below meth c G nL Q hh sz cells slots (pc + 1) L (.int ((xTxt.getD k []).getD i.toNatClampNeg 0) :: rest)) : xW p l e R s m args below meth c G nL Q hh sz cells slots pc L (.int i :: .ref (gT G (2 + k)) :: rest) := fun H locs ls hP hz hS hL =>
  va_tb hc.1 hc.2.1 (hc.tk hk).2.2.2.2.2.2.2.2.2.2 hS hin rfl hdg (kk H locs ls hP hz hS hL)
/-- our own array of constants -/
def xtok {β : Type} (t : Option Nat) (k : Nat → Option β) : Option β := match t with
  | some o => if o < 28 then k o else none
  | none => none
theorem xtok_some {β : Type} {t : Option Nat} {k : Nat → Option β} {y : β} (h : xtok t k = some y) : ∃ o, t = some o ∧ o < 28 ∧ k o = some y := by
  cases t with
  | none => cases h
  | some o =>
    by_cases q : o < 28
    · exact ⟨o, rfl, q, by rw [← h]; exact (if_pos q).symm⟩
    · rw [xtok, if_neg q] at h; cases h
theorem x_kald (hc : xC p s m args meth c G nL cc own ret) {Y : xY} {M : xMem} {a o : Nat} (hk : Y.2.1 a = 26) {i : Int32} (hin : vp_in i 61) (ho : M.2.2.1 a i.toNatClampNeg = some o) (hdg : decode cc pc = .ok (.aaload, 1)) (kk : xW p l e R s m args below meth c G nL Q (xo G Y M) sz cells slots (pc + 1) L (.ref (gE G o) :: rest)) : xW p l e R s m args below meth c G nL Q (xo G Y M) sz cells slots pc L (.int i :: .ref a :: rest) :=
  x_aald hc (cTk hk) hin hdg (by rw [ho]; exact kk)
theorem x_kast (hc : xC p s m args meth c G nL cc own ret) {Y : xY} {M : xMem} {a o : Nat} (hk : Y.2.1 a = 26) (ho : o < 28) {i : Int32} (hin : vp_in i 61) (hdg : decode cc pc = .ok (.aastore, 1)) (kk : xW p l e R s m args below meth c G nL Q (xo G Y (wT M a i.toNatClampNeg o)) sz cells slots (pc + 1) L rest) : xW p l e R s m args below meth c G nL Q (xo G Y M) sz cells slots pc L (.ref (gE G o) :: .int i :: .ref a :: rest) := by
  intro H locs ls hP hz hS hL
  have hlt : i.toNatClampNeg < 61 := Nat.not_le.mp fun q => hin (Or.inr q)
  have h0 : ¬ i < 0 := fun q => hin (Or.inl q)
  obtain ⟨cellV, g1, g3, hfc, hA⟩ := (hc.tk ho).2.1.kept (H1 := H) (fun a ha hn => hS.2.1 a ha hn)
  obtain ⟨kA, comp, k1, k2, k3, -⟩ := (hc.K.2 4 _ rfl).2
  obtain ⟨kE, hkE, -⟩ := Vm.findClass_spec k3
  cases hfc.symm.trans k3
  have ha := hP a _ (cTk (M := M) hk)
  have ha2 : H[a]? = some (vp_cell (gZ G 4) (61, .inr (.inr (.inr (.inr (fun i => (M.2.2.1 a i).map (gE G))))))) := ha.2
  rw [vp_cell_q] at ha2
  refine W.aast (cell := arrV (gZ G 4) 61 (fun j => va_rf ((M.2.2.1 a j).map (gE G)))) hc.1 hc.2.1 ha2 (fun q h => by cases h) (fun h => by cases h) k1 k2 rfl hkE ⟨h0, by rw [arrV_size]; exact hlt⟩ g1 (fun q h => by rw [h] at g3; cases g3) hkE (va_asg _ _) rfl rfl hdg fun H1 e z oq => ?_
  have hX : xu (xo G Y M) a (.inl (gZ G 4, 61, .inr (.inr (.inr (.inr (fun j => ((va_up (M.2.2.1 a) i.toNatClampNeg (some o)) j).map (gE G))))))) = xo G Y (wT M a i.toNatClampNeg o) := xo_w xo_wT_ne (by rw [cTk hk, wT_eq])
  rw [← hX] at kk
  refine kk H1 _ ls (hP.put (cTk hk) ?_ oq) (z.trans hz) (hS.put z oq ha.1) hL
  show H1[a]? = some (vp_cell _ _)
  rw [e]
  dsimp only
  rw [vp_cell_q, arrV_store]
  congr 2
  funext q
  by_cases hq : q = i.toNatClampNeg
  · subst hq
    simp [updV, va_up, va_rf]
  · simp [updV, va_up, hq]
/-- a call on a constant object -/
theorem x_callVO (hc : xC p s m args meth c G nL cc own ret) {y : MethodName} {bytes : ByteArray} {C : String} {maxL d mc ms n n' index b : Nat} {rt : Option FieldType} {As st : List Value} {h' : xH} {r : Option Value} (hM : xM l G y bytes maxL rt d mc ms (.ref b :: As) hh sz r h' n') (hO : va_O C b (xA G) s s.heap) (hR : xR R d maxL) (hN : xN y n) (hlen : As.length = n) (hst : st = As.reverse ++ .ref b :: rest)
    (wc : Cond.code y bytes maxL rt ∈ xWs) (wi : Cond.initialized y.cls ∈ xWs) (wl : Cond.methodLink own index y ∈ xWs) (wm : Cond.instanceMethod y ∈ xWs) (wsel : Cond.selects C y y ∈ xWs) (hroom : (rest.map fun v => v.category).sum ≤ 8) (hf : cells + mc ≤ R.cells ∧ slots + ms ≤ R.slots) (hdg : decode cc pc = .ok (.invokevirtual index, 3))
    (kk : xW p l e R s m args below meth c G nL Q h' n' (cells + mc) (slots + ms) (pc + 3) L (r.toList ++ rest)) : xW p l e R s m args below meth c G nL Q hh sz cells slots pc L st := by
  intro H locs ls hP hz hS hL
  obtain ⟨cell, g1, g2, g3, -⟩ := hO.kept (H1 := H) (fun a ha hn => hS.2.1 a ha hn)
  subst hst
  exact x_of_run (va_runV (As := As) (C := C) ⟨hc.1, hc.2.1, hc.2.2.1, hc.ow, hc.ts⟩ hM ⟨callB_of n hc.ts (xGood wc) rfl rfl rfl (hc.ts _ wi) (hc.ts _ wl) hN hR, hc.ts _ wm, hc.ts _ wsel⟩ ⟨xPc.blind, ⟨cell, g1, g2, g3⟩, xpre hc hP hz hS⟩ rfl hlen hL.1 rfl (lv_room hroom) hdg hf) hS hL kk
/-- the same, of an inherited method -/
theorem x_callUO (hc : xC p s m args meth c G nL cc own ret) {x y : MethodName} {bytes : ByteArray} {C owner : String} {maxL d mc ms n n' index b : Nat} {rt : Option FieldType} {As st : List Value} {h' : xH} {r : Option Value} (hM : xM l G y bytes maxL rt d mc ms (.ref b :: As) hh sz r h' n') (hO : va_O C b (xA G) s s.heap) (hR : xR R d maxL) (hyx : y = ⟨owner, x.name, x.desc⟩) (hN : owner ≠ "java/lang/invoke/MethodHandle" ∧ owner ≠ "java/lang/invoke/VarHandle" ∧ (parseMethodDescriptor x.desc).map (fun d => d.parameters.length) = some n) (hlen : As.length = n) (hst : st = As.reverse ++ .ref b :: rest)
    (wc : Cond.code y bytes maxL rt ∈ xWs) (wi : Cond.initialized y.cls ∈ xWs) (wl : Cond.methodLink own index x ∈ xWs) (wsm : Cond.sameMethod x.cls owner x.name x.desc ∈ xWs) (wm : Cond.instanceMethod y ∈ xWs) (wsel : Cond.selects C x y ∈ xWs) (hroom : (rest.map fun v => v.category).sum ≤ 8) (hf : cells + mc ≤ R.cells ∧ slots + ms ≤ R.slots) (hdg : decode cc pc = .ok (.invokevirtual index, 3))
    (kk : xW p l e R s m args below meth c G nL Q h' n' (cells + mc) (slots + ms) (pc + 3) L (r.toList ++ rest)) : xW p l e R s m args below meth c G nL Q hh sz cells slots pc L st := by
  intro H locs ls hP hz hS hL
  obtain ⟨cell, g1, g2, g3, -⟩ := hO.kept (H1 := H) (fun a ha hn => hS.2.1 a ha hn)
  subst hst
  have good : ∀ w ∈ xWs, w ∈ xWs ∧ ((w.onTables && w.keeps) = true ∨ ∃ ty, w = .arrayClass ty) := fun w h => ⟨h, good_of_word (List.mem_filter.mp h).2⟩
  have hT : GoodIn xWs (va_wsU own index C owner x y (Cond.code y bytes maxL rt :: xWs)) := by
    intro w hw
    unfold va_wsU at hw
    simp only [List.cons_append, List.nil_append, List.mem_cons] at hw
    rcases hw with rfl | rfl | rfl | rfl | rfl | rfl | hw
    · exact good _ wl
    · exact good _ wsm
    · exact good _ wsel
    · exact good _ wm
    · exact good _ wi
    · exact good _ wc
    · exact good _ hw
  exact x_of_run (va_runU (As := As) (C := C) ⟨hc.1, hc.2.1, hc.2.2.1, hc.ow, hc.ts⟩ hM (va_cwU n hc.ts hT rfl rfl rfl hyx hN hR) ⟨xPc.blind, ⟨cell, g1, g2, g3⟩, xpre hc hP hz hS⟩ rfl hlen hL.1 rfl (lv_room hroom) hdg hf) hS hL kk
theorem x_ldcS (hc : xC p s m args meth c G nL cc own ret) {tx : String} {index q : Nat} (hZ : vk_R own index tx q s) (hdg : decode cc pc = .ok (.ldc index, 2)) (k : xW p l e R s m args below meth c G nL Q hh sz cells slots (pc + 2) L (.ref q :: rest)) : xW p l e R s m args below meth c G nL Q hh sz cells slots pc L rest := fun H locs ls hP hz hS hL => va_ldcS hc.1 hc.2.1 hc.ow hZ hdg (k H locs ls hP hz hS hL)
theorem x_ldcw0 {T : State} {locs : List Loc} (X : Stand p l e R s m args below meth c T locs cells slots) (hexec : p.tables.exec = Jvm.exec) {tx : String} {index a : Nat} (hown : s.vm.findClass own = some m.cls) (hZ : vk_R own index tx a s) {g : JFrame} (hg : g.method = m) (hdg : decode c.code g.pc = .ok (.ldc_w index, 3)) : ∀ target, Steps p.tables e below (T.setTop { g with pc := g.pc + 3, stack := .ref a :: g.stack }) target → Steps p.tables e below (T.setTop g) target := by
  obtain ⟨k, cf, i, a', hk, hcf, hcp, -, hr, hev'⟩ := Cond.stringRef_spec hown hZ.1
  cases hZ.2.symm.trans hev'
  obtain ⟨k', hk', he⟩ := X.warmed.alike.2.2 _ _ hk
  have hr' : k'.resolved[index]? = some (some (.string a)) := by
    rcases X.warmed.entry hk hk' index with h | ⟨h, -⟩
    · rw [h]; exact hr
    · rw [hr] at h; cases h
  intro target hrest
  subst hg
  jvm_step X.here [hexec, hdg, ldc_w.wp_string (e := e) (s := T) (f := g) X.here.top hk' (by rw [he]; exact hcf) hcp hr']
  exact hrest
theorem x_ldcwS (hc : xC p s m args meth c G nL cc own ret) {tx : String} {index q : Nat} (hZ : vk_R own index tx q s) (hdg : decode cc pc = .ok (.ldc_w index, 3)) (k : xW p l e R s m args below meth c G nL Q hh sz cells slots (pc + 3) L (.ref q :: rest)) : xW p l e R s m args below meth c G nL Q hh sz cells slots pc L rest := fun H locs ls hP hz hS hL => by
  intro T hT X
  obtain ⟨t, a1, b1⟩ := k H locs ls hP hz hS hL T hT X
  exact ⟨t, x_ldcw0 X hc.1 hc.ow hZ (g := F0 m pc ls rest) rfl (by rw [hc.2.1]; exact hdg) t a1, b1⟩
end X9
/-! the desk: its cell, its two readings -/
def xDk (Y : xY) (b : Nat) : Prop := Y.2.1 b = 1 ∧ Y.2.2 b = b ∧ (∀ q, Y.2.1 q = 1 → q = b) ∧ xLt Y (b + 1) ∧ xSg Y (b + 3) ∧ xRd Y (b + 5) ∧ xRd Y (b + 36)
theorem xDk.w {Y : xY} {b : Nat} (h : xDk Y b) : xLt Y (b + 1) := h.2.2.2.1
theorem xDk.g {Y : xY} {b : Nat} (h : xDk Y b) : xSg Y (b + 3) := h.2.2.2.2.1
theorem xDk.rd {Y : xY} {b x : Nat} (h : xDk Y b) (hx : x = b + 5 ∨ x = b + 36) : xRd Y x := by
  rcases hx with rfl | rfl
  · exact h.2.2.2.2.2.1
  · exact h.2.2.2.2.2.2
theorem c_D {G : xG} {Y : xY} {b : Nat} (h : xDk Y b) (M : xMem) : xo G Y M b = some (.inr (0, [.ref (b + 1), .ref (b + 3), .ref (M.2.2.2 0 + 30), .ref (M.2.2.2 1 + 30), .int (M.1 b 4), .int (M.1 b 5)])) := by
  have e1 : Y.2.1 b = 1 := h.1
  have e2 : Y.2.2 b = b := h.2.1
  unfold xo xcell
  rw [e1, e2]; rfl
theorem w_D_4 {G : xG} {Y : xY} {b : Nat} (h : xDk Y b) (M : xMem) (v : Int32) : xu (xo G Y M) b (.inr (0, List.set [.ref (b + 1), .ref (b + 3), .ref (M.2.2.2 0 + 30), .ref (M.2.2.2 1 + 30), .int (M.1 b 4), .int (M.1 b 5)] 4 (.int v))) = xo G Y (wI M b 4 v) := xo_w xo_wI_ne (by
  rw [c_D h, wI_eq]; rfl)
theorem w_D_5 {G : xG} {Y : xY} {b : Nat} (h : xDk Y b) (M : xMem) (v : Int32) : xu (xo G Y M) b (.inr (0, List.set [.ref (b + 1), .ref (b + 3), .ref (M.2.2.2 0 + 30), .ref (M.2.2.2 1 + 30), .int (M.1 b 4), .int (M.1 b 5)] 5 (.int v))) = xo G Y (wI M b 5 v) := xo_w xo_wI_ne (by
  rw [c_D h, wI_eq]; rfl)
theorem xo_wR_ne {G : xG} {Y : xY} {b : Nat} (h : xDk Y b) {M : xMem} {k v : Nat} : ∀ q, q ≠ b → xo G Y (wR M k v) q = xo G Y M q := by
  intro q hq
  have h1 : Y.2.1 q ≠ 1 := fun z => hq (h.2.2.1 q z)
  have e1 : (wR M k v).1 = M.1 := rfl
  have e2 : (wR M k v).2.1 = M.2.1 := rfl
  have e3 : (wR M k v).2.2.1 = M.2.2.1 := rfl
  unfold xo xcell
  rw [e1, e2, e3]
  split
  · rfl
  · split
    · rfl
    · split <;> first | rfl | (rename_i z; exact absurd z h1)
theorem w_D_2 {G : xG} {Y : xY} {b : Nat} (h : xDk Y b) (M : xMem) (x : Nat) : xu (xo G Y M) b (.inr (0, List.set [.ref (b + 1), .ref (b + 3), .ref (M.2.2.2 0 + 30), .ref (M.2.2.2 1 + 30), .int (M.1 b 4), .int (M.1 b 5)] 2 (.ref (x + 30)))) = xo G Y (wR M 0 x) := xo_w (xo_wR_ne h) (by
  rw [c_D h]; rfl)
theorem w_D_3 {G : xG} {Y : xY} {b : Nat} (h : xDk Y b) (M : xMem) (x : Nat) : xu (xo G Y M) b (.inr (0, List.set [.ref (b + 1), .ref (b + 3), .ref (M.2.2.2 0 + 30), .ref (M.2.2.2 1 + 30), .int (M.1 b 4), .int (M.1 b 5)] 3 (.ref (x + 30)))) = xo G Y (wR M 1 x) := xo_w (xo_wR_ne h) (by
  rw [c_D h]; rfl)
/-- a reading of the desk b -/
def xsrc {β : Type} (b x : Nat) (k : Nat → Option β) : Option β := if x = b + 5 ∨ x = b + 36 then k x else none
theorem xsrc_some {β : Type} {b x : Nat} {k : Nat → Option β} {y : β} (h : xsrc b x k = some y) : ∃ z, z = x ∧ (z = b + 5 ∨ z = b + 36) ∧ k z = some y := by
  by_cases q : x = b + 5 ∨ x = b + 36
  · exact ⟨x, rfl, q, by rw [← h]; exact (if_pos q).symm⟩
  · rw [xsrc, if_neg q] at h; cases h
section X10
variable {p : Program} {l : Launch} {e : Env} {R : Room} {s : State} {m : MethodId} {args : Array Value} {below : List Frame} {meth : Method} {c : Code} {Q : State → Prop} {G : xG} {nL : Nat} {cc : ByteArray} {own : String} {ret : Option FieldType} {hh : xH} {sz cells slots pc : Nat} {L : List (Option Value)} {rest st : List Value}
/-- our heap changes its name -/
theorem x_heap {h2 : xH} (e1 : hh = h2) (k : xW p l e R s m args below meth c G nL Q h2 sz cells slots pc L st) : xW p l e R s m args below meth c G nL Q hh sz cells slots pc L st := e1 ▸ k
theorem x_size {sz2 : Nat} (e1 : sz = sz2) (k : xW p l e R s m args below meth c G nL Q hh sz2 cells slots pc L st) : xW p l e R s m args below meth c G nL Q hh sz cells slots pc L st := e1 ▸ k
/-- a new array of constants, all null -/
theorem x_newq (hc : xC p s m args meth c G nL cc own ret) {index : Nat} (hlink : Cond.classLink own index "LintDesk$Token" ∈ xWs) {n : Int32} {N : Nat} (hn : ¬ n < 0) (hN : n.toNatClampNeg = N) (hbytes : N * 4 ≤ 536870912) (hcells : cells + 1 ≤ R.cells) (hslots : slots + N ≤ R.slots) (hdg : decode cc pc = .ok (.anewarray index, 3)) (kk : xW p l e R s m args below meth c G nL Q (xu hh sz (.inl (gZ G 4, N, .inr (.inr (.inr (.inr (fun _ => none))))))) (sz + 1) (cells + 1) (slots + N) (pc + 3) L (.ref sz :: rest)) : xW p l e R s m args below meth c G nL Q hh sz cells slots pc L (.int n :: rest) := by
  intro H locs ls hP hz hS hL
  subst hN
  obtain ⟨kA0, comp0, -, -, -, g4⟩ := (hc.K.2 4 _ rfl).2
  refine W.anew hc.1 hc.2.1 hc.ow (hc.ts _ hlink) (va_AO.use hc.F.2.2.1) rfl hdg rfl hn hbytes hcells hslots fun cA kA comp f1 f2 f3 f4 => ?_
  cases g4.symm.trans f1
  generalize hH1 : H.push ({ cls := gZ G 4, slots := Array.replicate n.toNatClampNeg .null, vm := .none } : Cell) = H1
  have z1 : H1.size = H.size + 1 := by rw [← hH1, Array.size_push]
  have e1 : H1[H.size]? = some (arrV (gZ G 4) n.toNatClampNeg (fun _ => .null)) := by rw [← hH1, Array.getElem?_push_size, ← arrV_new]
  have o1 : ∀ q : Nat, q < H.size → H1[q]? = H[q]? := fun q hq => by rw [← hH1, Array.getElem?_push, if_neg (Nat.ne_of_lt hq)]
  have hB : gB G ≤ sz := by rw [← hz]; exact Nat.le_trans hc.2.2.2.2.2.2.2.2 hS.1
  subst hz
  refine kk H1 locs ls (hP.new hB ?_ rfl o1) z1 ⟨Nat.le_trans hS.1 (by omega), fun x h1 h2 => (o1 x (Nat.lt_of_lt_of_le h1 hS.1)).trans (hS.2.1 x h1 h2), hS.2.2⟩ hL
  show H1[H.size]? = some (vp_cell _ _)
  rw [vp_cell_q]
  exact e1
end X10
/-- the cells of new arrays -/
def xz0 (G : xG) (t n : Nat) : va_E := .inl (gZ G t, n, .inl (fun _ => 0))
def xzJ (G : xG) (n : Nat) : va_E := .inl (gZ G 3, n, .inr (.inl (fun _ => 0)))
def xzT (G : xG) (n : Nat) : va_E := .inl (gZ G 4, n, .inr (.inr (.inr (.inr (fun _ => none)))))
theorem xz0_cell (cA : ClassId) (n : Nat) : vp_cell cA (n, .inl (fun _ => 0)) = arrV cA n (fun _ => .int 0) := rfl
theorem xzJ_cell (cA : ClassId) (n : Nat) : vp_cell cA (n, .inr (.inl (fun _ => 0))) = arrV cA n (fun _ => .long 0) := rfl
set_option maxRecDepth 100000 in
theorem xs_T_scanOne : Cond.selects "LintDesk$Tokens" y_T_scanOne y_T_scanOne ∈ xWs := xw_sel (i := 0) rfl rfl
set_option maxRecDepth 100000 in
theorem xs_T_put : Cond.selects "LintDesk$Tokens" y_T_put y_T_put ∈ xWs := xw_sel (i := 1) rfl rfl
set_option maxRecDepth 100000 in
theorem xs_T_noteWord : Cond.selects "LintDesk$Tokens" y_T_noteWord y_T_noteWord ∈ xWs := xw_sel (i := 2) rfl rfl
set_option maxRecDepth 100000 in
theorem xs_T_signAt : Cond.selects "LintDesk$Tokens" y_T_signAt y_T_signAt ∈ xWs := xw_sel (i := 3) rfl rfl
set_option maxRecDepth 100000 in
theorem xs_P_statements : Cond.selects "LintDesk$Parser" y_P_statements y_P_statements ∈ xWs := xw_sel (i := 4) rfl rfl
set_option maxRecDepth 100000 in
theorem xs_P_next : Cond.selects "LintDesk$Parser" y_P_next y_P_next ∈ xWs := xw_sel (i := 5) rfl rfl
set_option maxRecDepth 100000 in
theorem xs_P_statement : Cond.selects "LintDesk$Parser" y_P_statement y_P_statement ∈ xWs := xw_sel (i := 6) rfl rfl
set_option maxRecDepth 100000 in
theorem xs_P_variable : Cond.selects "LintDesk$Parser" y_P_variable y_P_variable ∈ xWs := xw_sel (i := 7) rfl rfl
set_option maxRecDepth 100000 in
theorem xs_P_take : Cond.selects "LintDesk$Parser" y_P_take y_P_take ∈ xWs := xw_sel (i := 8) rfl rfl
set_option maxRecDepth 100000 in
theorem xs_S_isThere : Cond.selects "LintDesk$Scopes" y_S_isThere y_S_isThere ∈ xWs := xw_sel (i := 9) rfl rfl
set_option maxRecDepth 100000 in
theorem xs_T_isThere : Cond.selects "LintDesk$Tokens" y_T_isThere y_T_isThere ∈ xWs := xw_sel (i := 10) rfl rfl
set_option maxRecDepth 100000 in
theorem xs_P_value : Cond.selects "LintDesk$Parser" y_P_value y_P_value ∈ xWs := xw_sel (i := 11) rfl rfl
set_option maxRecDepth 100000 in
theorem xs_P_part : Cond.selects "LintDesk$Parser" y_P_part y_P_part ∈ xWs := xw_sel (i := 12) rfl rfl
set_option maxRecDepth 100000 in
theorem xs_P_use : Cond.selects "LintDesk$Parser" y_P_use y_P_use ∈ xWs := xw_sel (i := 13) rfl rfl
set_option maxRecDepth 100000 in
theorem xs_P_arguments : Cond.selects "LintDesk$Parser" y_P_arguments y_P_arguments ∈ xWs := xw_sel (i := 14) rfl rfl
set_option maxRecDepth 100000 in
theorem xs_P_function : Cond.selects "LintDesk$Parser" y_P_function y_P_function ∈ xWs := xw_sel (i := 15) rfl rfl
set_option maxRecDepth 100000 in
theorem xs_P_parameters : Cond.selects "LintDesk$Parser" y_P_parameters y_P_parameters ∈ xWs := xw_sel (i := 16) rfl rfl
set_option maxRecDepth 100000 in
theorem xs_P_block : Cond.selects "LintDesk$Parser" y_P_block y_P_block ∈ xWs := xw_sel (i := 17) rfl rfl
set_option maxRecDepth 100000 in
theorem xs_P_choice : Cond.selects "LintDesk$Parser" y_P_choice y_P_choice ∈ xWs := xw_sel (i := 18) rfl rfl
set_option maxRecDepth 100000 in
theorem xs_P_condition : Cond.selects "LintDesk$Parser" y_P_condition y_P_condition ∈ xWs := xw_sel (i := 19) rfl rfl
set_option maxRecDepth 100000 in
theorem xs_P_loop : Cond.selects "LintDesk$Parser" y_P_loop y_P_loop ∈ xWs := xw_sel (i := 20) rfl rfl
set_option maxRecDepth 100000 in
theorem xs_P_leave : Cond.selects "LintDesk$Parser" y_P_leave y_P_leave ∈ xWs := xw_sel (i := 21) rfl rfl
set_option maxRecDepth 100000 in
theorem xs_P_excuse : Cond.selects "LintDesk$Parser" y_P_excuse y_P_excuse ∈ xWs := xw_sel (i := 22) rfl rfl
set_option maxRecDepth 100000 in
theorem xs_P_nothing : Cond.selects "LintDesk$Parser" y_P_nothing y_P_nothing ∈ xWs := xw_sel (i := 23) rfl rfl
set_option maxRecDepth 100000 in
theorem xs_B_bind : Cond.selects "LintDesk$Binder" y_B_bind y_B_bind ∈ xWs := xw_sel (i := 24) rfl rfl
set_option maxRecDepth 100000 in
theorem xs_B_seenFrom : Cond.selects "LintDesk$Binder" y_B_seenFrom y_B_seenFrom ∈ xWs := xw_sel (i := 25) rfl rfl
set_option maxRecDepth 100000 in
theorem xs_B_isEarly : Cond.selects "LintDesk$Binder" y_B_isEarly y_B_isEarly ∈ xWs := xw_sel (i := 26) rfl rfl
set_option maxRecDepth 100000 in
theorem xs_B_judge : Cond.selects "LintDesk$Binder" y_B_judge y_B_judge ∈ xWs := xw_sel (i := 27) rfl rfl
set_option maxRecDepth 100000 in
theorem xs_B_isShadow : Cond.selects "LintDesk$Binder" y_B_isShadow y_B_isShadow ∈ xWs := xw_sel (i := 28) rfl rfl
set_option maxRecDepth 100000 in
theorem xs_G_findingsAt : Cond.selects "LintDesk$Settings" y_G_findingsAt y_G_findingsAt ∈ xWs := xw_sel (i := 29) rfl rfl
set_option maxRecDepth 100000 in
theorem xs_G_rulesAt : Cond.selects "LintDesk$Settings" y_G_rulesAt y_G_rulesAt ∈ xWs := xw_sel (i := 30) rfl rfl
set_option maxRecDepth 100000 in
theorem xs_D_mendedSize : Cond.selects "LintDesk" y_D_mendedSize y_D_mendedSize ∈ xWs := xw_sel (i := 31) rfl rfl
set_option maxRecDepth 100000 in
theorem xs_D_mendedTo : Cond.selects "LintDesk" y_D_mendedTo y_D_mendedTo ∈ xWs := xw_sel (i := 32) rfl rfl
set_option maxRecDepth 100000 in
theorem xs_D_mendedFrom : Cond.selects "LintDesk" y_D_mendedFrom y_D_mendedFrom ∈ xWs := xw_sel (i := 33) rfl rfl
set_option maxRecDepth 100000 in
theorem xs_D_writeMended : Cond.selects "LintDesk" y_D_writeMended y_D_writeMended ∈ xWs := xw_sel (i := 34) rfl rfl
set_option maxRecDepth 100000 in
theorem xs_D_takeSpare : Cond.selects "LintDesk" y_D_takeSpare y_D_takeSpare ∈ xWs := xw_sel (i := 35) rfl rfl
set_option maxRecDepth 100000 in
theorem xs_N_scans : Cond.selects "LintDeskModel" y_N_scans y_N_scans ∈ xWs := xw_sel (i := 37) rfl rfl
set_option maxRecDepth 100000 in
theorem xs_N_cuts : Cond.selects "LintDeskModel" y_N_cuts y_N_cuts ∈ xWs := xw_sel (i := 38) rfl rfl
set_option maxRecDepth 100000 in
theorem xs_N_c : Cond.selects "LintDeskModel" y_N_c y_N_c ∈ xWs := xw_sel (i := 39) rfl rfl
set_option maxRecDepth 100000 in
theorem xs_N_word : Cond.selects "LintDeskModel" y_N_word y_N_word ∈ xWs := xw_sel (i := 40) rfl rfl
set_option maxRecDepth 100000 in
theorem xs_N_spells : Cond.selects "LintDeskModel" y_N_spells y_N_spells ∈ xWs := xw_sel (i := 41) rfl rfl
set_option maxRecDepth 100000 in
theorem xs_N_quoted : Cond.selects "LintDeskModel" y_N_quoted y_N_quoted ∈ xWs := xw_sel (i := 42) rfl rfl
set_option maxRecDepth 100000 in
theorem xs_N_sign : Cond.selects "LintDeskModel" y_N_sign y_N_sign ∈ xWs := xw_sel (i := 43) rfl rfl
set_option maxRecDepth 100000 in
theorem xs_N_enters : Cond.selects "LintDeskModel" y_N_enters y_N_enters ∈ xWs := xw_sel (i := 44) rfl rfl
set_option maxRecDepth 100000 in
theorem xs_N_lists : Cond.selects "LintDeskModel" y_N_lists y_N_lists ∈ xWs := xw_sel (i := 45) rfl rfl
set_option maxRecDepth 100000 in
theorem xs_N_push : Cond.selects "LintDeskModel" y_N_push y_N_push ∈ xWs := xw_sel (i := 46) rfl rfl
set_option maxRecDepth 100000 in
theorem xs_N_is : Cond.selects "LintDeskModel" y_N_is y_N_is ∈ xWs := xw_sel (i := 47) rfl rfl
set_option maxRecDepth 100000 in
theorem xs_N_statement : Cond.selects "LintDeskModel" y_N_statement y_N_statement ∈ xWs := xw_sel (i := 48) rfl rfl
set_option maxRecDepth 100000 in
theorem xs_N_wrongs : Cond.selects "LintDeskModel" y_N_wrongs y_N_wrongs ∈ xWs := xw_sel (i := 49) rfl rfl
set_option maxRecDepth 100000 in
theorem xs_N_excusing : Cond.selects "LintDeskModel" y_N_excusing y_N_excusing ∈ xWs := xw_sel (i := 50) rfl rfl
set_option maxRecDepth 100000 in
theorem xs_N_declaration : Cond.selects "LintDeskModel" y_N_declaration y_N_declaration ∈ xWs := xw_sel (i := 51) rfl rfl
set_option maxRecDepth 100000 in
theorem xs_N_takes : Cond.selects "LintDeskModel" y_N_takes y_N_takes ∈ xWs := xw_sel (i := 52) rfl rfl
set_option maxRecDepth 100000 in
theorem xs_N_declares : Cond.selects "LintDeskModel" y_N_declares y_N_declares ∈ xWs := xw_sel (i := 53) rfl rfl
set_option maxRecDepth 100000 in
theorem xs_N_fnAround : Cond.selects "LintDeskModel" y_N_fnAround y_N_fnAround ∈ xWs := xw_sel (i := 54) rfl rfl
set_option maxRecDepth 100000 in
theorem xs_N_thingIn : Cond.selects "LintDeskModel" y_N_thingIn y_N_thingIn ∈ xWs := xw_sel (i := 55) rfl rfl
set_option maxRecDepth 100000 in
theorem xs_N_alike : Cond.selects "LintDeskModel" y_N_alike y_N_alike ∈ xWs := xw_sel (i := 56) rfl rfl
set_option maxRecDepth 100000 in
theorem xs_N_function : Cond.selects "LintDeskModel" y_N_function y_N_function ∈ xWs := xw_sel (i := 57) rfl rfl
set_option maxRecDepth 100000 in
theorem xs_N_value : Cond.selects "LintDeskModel" y_N_value y_N_value ∈ xWs := xw_sel (i := 58) rfl rfl
set_option maxRecDepth 100000 in
theorem xs_N_use : Cond.selects "LintDeskModel" y_N_use y_N_use ∈ xWs := xw_sel (i := 59) rfl rfl
set_option maxRecDepth 100000 in
theorem xs_N_part : Cond.selects "LintDeskModel" y_N_part y_N_part ∈ xWs := xw_sel (i := 60) rfl rfl
set_option maxRecDepth 100000 in
theorem xs_N_belongs : Cond.selects "LintDeskModel" y_N_belongs y_N_belongs ∈ xWs := xw_sel (i := 61) rfl rfl
set_option maxRecDepth 100000 in
theorem xs_N_thingAround : Cond.selects "LintDeskModel" y_N_thingAround y_N_thingAround ∈ xWs := xw_sel (i := 62) rfl rfl
set_option maxRecDepth 100000 in
theorem xs_N_fails : Cond.selects "LintDeskModel" y_N_fails y_N_fails ∈ xWs := xw_sel (i := 63) rfl rfl
set_option maxRecDepth 100000 in
theorem xs_N_becomes : Cond.selects "LintDeskModel" y_N_becomes y_N_becomes ∈ xWs := xw_sel (i := 64) rfl rfl
set_option maxRecDepth 100000 in
theorem xs_N_looks : Cond.selects "LintDeskModel" y_N_looks y_N_looks ∈ xWs := xw_sel (i := 65) rfl rfl
set_option maxRecDepth 100000 in
theorem xs_N_isGiven : Cond.selects "LintDeskModel" y_N_isGiven y_N_isGiven ∈ xWs := xw_sel (i := 66) rfl rfl
set_option maxRecDepth 100000 in
theorem xs_N_finds : Cond.selects "LintDeskModel" y_N_finds y_N_finds ∈ xWs := xw_sel (i := 67) rfl rfl
set_option maxRecDepth 100000 in
theorem xs_N_isEarly : Cond.selects "LintDeskModel" y_N_isEarly y_N_isEarly ∈ xWs := xw_sel (i := 68) rfl rfl
set_option maxRecDepth 100000 in
theorem xs_N_isUnused : Cond.selects "LintDeskModel" y_N_isUnused y_N_isUnused ∈ xWs := xw_sel (i := 69) rfl rfl
set_option maxRecDepth 100000 in
theorem xs_N_goes : Cond.selects "LintDeskModel" y_N_goes y_N_goes ∈ xWs := xw_sel (i := 70) rfl rfl
set_option maxRecDepth 100000 in
theorem xs_N_emptyAt : Cond.selects "LintDeskModel" y_N_emptyAt y_N_emptyAt ∈ xWs := xw_sel (i := 71) rfl rfl
set_option maxRecDepth 100000 in
theorem xs_N_mended : Cond.selects "LintDeskModel" y_N_mended y_N_mended ∈ xWs := xw_sel (i := 72) rfl rfl
