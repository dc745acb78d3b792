/-! memory as pure values; cells by a static layout (printed by gen/mem.py) -/
abbrev xMem : Type := (Nat → Nat → Int32) × (Nat → Nat → Int64) × (Nat → Nat → Option Nat) × (Nat → Nat)
def wI (M : xMem) (a k : Nat) (v : Int32) : xMem := (va_up M.1 a (upd (M.1 a) k v), M.2)
def wJ (M : xMem) (a k : Nat) (v : Int64) : xMem := (M.1, va_up M.2.1 a (vp_updL (M.2.1 a) k v), M.2.2)
def wT (M : xMem) (a k : Nat) (v : Nat) : xMem := (M.1, M.2.1, va_up M.2.2.1 a (va_up (M.2.2.1 a) k (some v)), M.2.2.2)
def wR (M : xMem) (k v : Nat) : xMem := (M.1, M.2.1, M.2.2.1, va_up M.2.2.2 k v)
def xbind {α β : Type} (o : Option (α × xMem)) (k : α → xMem → Option β) : Option β := match o with
  | some (x, M) => k x M
  | none => none
theorem xbind_some {α β : Type} {o : Option (α × xMem)} {k : α → xMem → Option β} {y : β} (h : xbind o k = some y) : ∃ x M, o = some (x, M) ∧ k x M = some y := by
  cases o with
  | none => cases h
  | some q => exact ⟨q.1, q.2, rfl, h⟩
def xlet {β : Type} (M : xMem) (k : xMem → Option β) : Option β := k M
theorem xlet_some {β : Type} {M : xMem} {k : xMem → Option β} {y : β} (h : xlet M k = some y) : k M = some y := h
/-- an index that is in -/
def xin (i : Int32) (n : Nat) : Bool := decide (0 ≤ i.toInt ∧ i.toInt < n)
theorem xin_in {i : Int32} {n : Nat} (h : xin i n = true) : vp_in i n := vp_in_iff.mpr (of_decide_eq_true h)
/-- an int that a narrow type holds -/
def xnar (ty : FieldType) (x : Int32) : Bool := decide (narrow ty (.int x) = .int x)
theorem xnar_n {ty : FieldType} {x : Int32} (h : xnar ty x = true) : narrow ty (.int x) = .int x := of_decide_eq_true h
theorem xne {x c : Int32} {v : Int} (h : ¬ x = c) (hc : c.toInt = v) : x.toInt ≠ v := fun e => h (Int32.toInt_inj.mp (e.trans hc.symm))
def xFuel : Nat := 2000
/-- the layout: cells that aren't ours to speak of, kinds, bases -/
abbrev xY : Type := xH × (Nat → Nat) × (Nat → Nat)
/-- arrays of ints, chars, booleans (in the first part of the memory) -/
def xar (k : Nat) : Option (Nat × Nat) := match k with
  | 20 => some (1, 160)
  | 21 => some (0, 61)
  | 22 => some (0, 60)
  | 23 => some (2, 60)
  | 30 => some (0, 160)
  | 31 => some (0, 400)
  | 32 => some (0, 64)
  | 33 => some (0, 8)
  | 34 => some (2, 10)
  | 35 => some (0, 300)
  | 36 => some (2, 64)
  | _ => none
def xal (k : Nat) : Option Nat := match k with
  | 24 => some 61
  | 25 => some 8
  | 27 => some 1
  | _ => none
def xcell (G : xG) (Y : xY) (M : xMem) (a : Nat) : Option va_E := match xar (Y.2.1 a) with
  | some (t, n) => some (.inl (gZ G t, n, .inl (M.1 a)))
  | none => match xal (Y.2.1 a) with
    | some n => some (.inl (gZ G 3, n, .inr (.inl (M.2.1 a))))
    | none => match Y.2.1 a with
      | 26 => some (.inl (gZ G 4, 61, .inr (.inr (.inr (.inr (fun i => (M.2.2.1 a i).map (gE G)))))))
      | 1 => some (.inr (0, [.ref ((Y.2.2 a) + 1), .ref ((Y.2.2 a) + 3), .ref (M.2.2.2 0 + 30), .ref (M.2.2.2 1 + 30), .int (M.1 a 4), .int (M.1 a 5)]))
      | 2 => some (.inr (1, [.ref ((Y.2.2 a) + 1), .int (M.1 a 1)]))
      | 3 => some (.inr (2, [.ref ((Y.2.2 a) + 1), .int (M.1 a 1), .int (M.1 a 2)]))
      | 4 => some (.inr (3, [.ref (Y.2.2 a), .ref ((Y.2.2 a) + 3), .ref ((Y.2.2 a) + 4), .ref ((Y.2.2 a) + 5), .ref ((Y.2.2 a) + 6), .ref ((Y.2.2 a) + 7), .int (M.1 a 6)]))
      | 5 => some (.inr (4, [.ref ((Y.2.2 a) + 9), .ref ((Y.2.2 a) + 10), .ref ((Y.2.2 a) + 11), .int (M.1 a 3)]))
      | 6 => some (.inr (5, [.ref ((Y.2.2 a) + 13), .ref ((Y.2.2 a) + 14), .ref ((Y.2.2 a) + 15), .ref ((Y.2.2 a) + 16), .ref ((Y.2.2 a) + 17), .ref ((Y.2.2 a) + 18), .ref ((Y.2.2 a) + 19), .ref ((Y.2.2 a) + 20), .int (M.1 a 8)]))
      | 7 => some (.inr (6, [.ref ((Y.2.2 a) + 22), .ref ((Y.2.2 a) + 23), .ref ((Y.2.2 a) + 24)]))
      | 8 => some (.inr (7, [.ref ((Y.2.2 a) + 2), .ref ((Y.2.2 a) + 8), .ref ((Y.2.2 a) + 12), .ref ((Y.2.2 a) + 21), .ref ((Y.2.2 a) + 26), .ref ((Y.2.2 a) + 27), .ref ((Y.2.2 a) + 28), .int (M.1 a 7), .int (M.1 a 8)]))
      | 9 => some (.inr (8, [.ref ((Y.2.2 a) + 2), .ref ((Y.2.2 a) + 8), .ref ((Y.2.2 a) + 21), .ref ((Y.2.2 a) + 25), .int (M.1 a 4), .int (M.1 a 5)]))
      | 10 => some (.inr (9, [.ref (Y.2.2 a), .ref ((Y.2.2 a) + 2), .ref ((Y.2.2 a) + 8), .ref ((Y.2.2 a) + 12), .ref ((Y.2.2 a) + 21), .ref ((Y.2.2 a) + 25), .ref ((Y.2.2 a) + 29)]))
      | 11 => some (.inr (10, [.int (M.1 a 0), .int (M.1 a 1), .int (M.1 a 2), .int (M.1 a 3), .int (M.1 a 4), .int (M.1 a 5), .int (M.1 a 6), .int (M.1 a 7), .int (M.1 a 8), .int (M.1 a 9), .ref ((Y.2.2 a) + 1), .ref ((Y.2.2 a) + 2), .ref ((Y.2.2 a) + 3), .ref ((Y.2.2 a) + 4), .ref ((Y.2.2 a) + 5), .ref ((Y.2.2 a) + 6), .ref ((Y.2.2 a) + 7), .ref ((Y.2.2 a) + 8), .ref ((Y.2.2 a) + 9), .ref ((Y.2.2 a) + 10), .ref ((Y.2.2 a) + 11), .ref ((Y.2.2 a) + 12), .ref ((Y.2.2 a) + 13), .ref ((Y.2.2 a) + 14), .ref ((Y.2.2 a) + 15), .ref ((Y.2.2 a) + 16), .ref ((Y.2.2 a) + 17), .int (M.1 a 27), .int (M.1 a 28), .int (M.1 a 29), .ref ((Y.2.2 a) + 18), .ref ((Y.2.2 a) + 19), .ref ((Y.2.2 a) + 20), .ref ((Y.2.2 a) + 21), .ref ((Y.2.2 a) + 22), .ref ((Y.2.2 a) + 23), .int (M.1 a 36), .ref ((Y.2.2 a) + 24), .ref ((Y.2.2 a) + 25), .ref ((Y.2.2 a) + 26), .ref ((Y.2.2 a) + 27), .int (M.1 a 41), .ref ((Y.2.2 a) + 28), .ref ((Y.2.2 a) + 29), .ref ((Y.2.2 a) + 30), .ref ((Y.2.2 a) + 31), .ref ((Y.2.2 a) + 32), .ref ((Y.2.2 a) + 33), .ref ((Y.2.2 a) + 34), .ref ((Y.2.2 a) + 35), .ref ((Y.2.2 a) + 36), .ref ((Y.2.2 a) + 37), .ref ((Y.2.2 a) + 38), .ref ((Y.2.2 a) + 39), .int (M.1 a 54), .int (M.1 a 55), .int (M.1 a 56), .int (M.1 a 57), .int (M.1 a 58), .int (M.1 a 59), .int (M.1 a 60), .ref ((Y.2.2 a) + 40), .ref ((Y.2.2 a) + 41), .int (M.1 a 63), .int (M.1 a 64)]))
      | _ => Y.1 a
def xo (G : xG) (Y : xY) (M : xMem) : xH := fun a => xcell G Y M a
theorem xo_w {G : xG} {Y : xY} {M M' : xMem} {a : Nat} {e : va_E} (h1 : ∀ q, q ≠ a → xo G Y M' q = xo G Y M q) (h2 : xo G Y M' a = some e) : xu (xo G Y M) a e = xo G Y M' := by
  funext q
  by_cases h : q = a
  · subst h; rw [xu_s, h2]
  · rw [xu_n _ _ h, h1 q h]
theorem wI_ne (M : xMem) {a q : Nat} (k : Nat) (v : Int32) (h : q ≠ a) : (wI M a k v).1 q = M.1 q := va_up_ne _ _ h
theorem wI_eq (M : xMem) (a k : Nat) (v : Int32) : (wI M a k v).1 a = upd (M.1 a) k v := va_up_self _ _ _
theorem wJ_ne (M : xMem) {a q : Nat} (k : Nat) (v : Int64) (h : q ≠ a) : (wJ M a k v).2.1 q = M.2.1 q := va_up_ne _ _ h
theorem wJ_eq (M : xMem) (a k : Nat) (v : Int64) : (wJ M a k v).2.1 a = vp_updL (M.2.1 a) k v := va_up_self _ _ _
theorem wT_ne (M : xMem) {a q : Nat} (k v : Nat) (h : q ≠ a) : (wT M a k v).2.2.1 q = M.2.2.1 q := va_up_ne _ _ h
theorem wT_eq (M : xMem) (a k v : Nat) : (wT M a k v).2.2.1 a = va_up (M.2.2.1 a) k (some v) := va_up_self _ _ _
theorem xo_wI_ne {G : xG} {Y : xY} {M : xMem} {a k : Nat} {v : Int32} : ∀ q, q ≠ a → xo G Y (wI M a k v) q = xo G Y M q := by
  intro q h
  have h1 : (wI M a k v).1 q = M.1 q := wI_ne M k v h
  have h2 : (wI M a k v).2 = M.2 := rfl
  unfold xo xcell
  rw [h1, h2]
theorem xo_wJ_ne {G : xG} {Y : xY} {M : xMem} {a k : Nat} {v : Int64} : ∀ q, q ≠ a → xo G Y (wJ M a k v) q = xo G Y M q := by
  intro q h
  have h1 : (wJ M a k v).2.1 q = M.2.1 q := wJ_ne M k v h
  have h2 : (wJ M a k v).2.2 = M.2.2 := rfl
  have h3 : (wJ M a k v).1 = M.1 := rfl
  unfold xo xcell
  rw [h1, h2, h3]
theorem xo_wT_ne {G : xG} {Y : xY} {M : xMem} {a k v : Nat} : ∀ q, q ≠ a → xo G Y (wT M a k v) q = xo G Y M q := by
  intro q h
  have h1 : (wT M a k v).2.2.1 q = M.2.2.1 q := wT_ne M k v h
  have h2 : (wT M a k v).2.2.2 = M.2.2.2 := rfl
  have h3 : (wT M a k v).1 = M.1 := rfl
  have h4 : (wT M a k v).2.1 = M.2.1 := rfl
  unfold xo xcell
  rw [h1, h2, h3, h4]
theorem cA {G : xG} {Y : xY} {M : xMem} {a t n : Nat} (h : xar (Y.2.1 a) = some (t, n)) : xo G Y M a = some (.inl (gZ G t, n, .inl (M.1 a))) := by
  unfold xo xcell; rw [h]
theorem cJ {G : xG} {Y : xY} {M : xMem} {a n : Nat} (h0 : xar (Y.2.1 a) = none) (h : xal (Y.2.1 a) = some n) : xo G Y M a = some (.inl (gZ G 3, n, .inr (.inl (M.2.1 a)))) := by
  unfold xo xcell; rw [h0, h]
theorem cTk {G : xG} {Y : xY} {M : xMem} {a : Nat} (h : Y.2.1 a = 26) : xo G Y M a = some (.inl (gZ G 4, 61, .inr (.inr (.inr (.inr (fun i => (M.2.2.1 a i).map (gE G))))))) := by
  unfold xo xcell; rw [h]; rfl
theorem wA {G : xG} {Y : xY} {M : xMem} {a t n : Nat} (h : xar (Y.2.1 a) = some (t, n)) (k : Nat) (v : Int32) : xu (xo G Y M) a (.inl (gZ G t, n, .inl (upd (M.1 a) k v))) = xo G Y (wI M a k v) := xo_w xo_wI_ne (by rw [cA h, wI_eq])
theorem wAJ {G : xG} {Y : xY} {M : xMem} {a n : Nat} (h0 : xar (Y.2.1 a) = none) (h : xal (Y.2.1 a) = some n) (k : Nat) (v : Int64) : xu (xo G Y M) a (.inl (gZ G 3, n, .inr (.inl (vp_updL (M.2.1 a) k v)))) = xo G Y (wJ M a k v) := xo_w xo_wJ_ne (by rw [cJ h0 h, wJ_eq])
def xLt (Y : xY) (b : Nat) : Prop := Y.2.1 b = 2 ∧ Y.2.1 (b + 1) = 20 ∧ Y.2.2 b = b
def xSg (Y : xY) (b : Nat) : Prop := Y.2.1 b = 3 ∧ Y.2.1 (b + 1) = 25 ∧ Y.2.2 b = b
def xrdK : List Nat := [2, 20, 4, 26, 21, 21, 24, 21, 5, 21, 21, 21, 6, 22, 22, 22, 22, 22, 22, 22, 23, 7, 22, 22, 23, 8, 22, 22, 23, 9, 10]
def xmdK : List Nat := [11, 30, 30, 30, 31, 32, 33, 34, 32, 32, 32, 35, 35, 35, 35, 32, 32, 36, 32, 32, 32, 32, 32, 32, 32, 32, 32, 36, 32, 32, 32, 32, 32, 32, 32, 32, 32, 32, 32, 36, 31, 31]
def xRd (Y : xY) (b : Nat) : Prop := ∀ i, i < 31 → Y.2.1 (b + i) = xrdK.getD i 0 ∧ Y.2.2 (b + i) = b
def xMd (Y : xY) (b : Nat) : Prop := ∀ i, i < 42 → Y.2.1 (b + i) = xmdK.getD i 0 ∧ Y.2.2 (b + i) = b
theorem xRd.L {Y : xY} {b : Nat} (h : xRd Y b) : xLt Y b := ⟨(h 0 (by decide)).1, (h 1 (by decide)).1, (h 0 (by decide)).2⟩
theorem xRd.k {Y : xY} {b : Nat} (h : xRd Y b) (i : Nat) (hi : i < 31) : Y.2.1 (b + i) = xrdK.getD i 0 := (h i hi).1
theorem xMd.k {Y : xY} {b : Nat} (h : xMd Y b) (i : Nat) (hi : i < 42) : Y.2.1 (b + i) = xmdK.getD i 0 := (h i hi).1
set_option maxRecDepth 100000 in
theorem c_L {G : xG} {Y : xY} {b : Nat} (h : xLt Y b) (M : xMem) : xo G Y M b = some (.inr (1, [.ref (b + 1), .int (M.1 b 1)])) := by
  have e1 : Y.2.1 b = 2 := h.1
  have e2 : Y.2.2 b = b := h.2.2
  unfold xo xcell
  rw [e1, e2]; rfl
set_option maxRecDepth 100000 in
theorem w_L_1 {G : xG} {Y : xY} {b : Nat} (h : xLt Y b) (M : xMem) (v : Int32) : xu (xo G Y M) b (.inr (1, List.set [.ref (b + 1), .int (M.1 b 1)] 1 (.int v))) = xo G Y (wI M b 1 v) := xo_w xo_wI_ne (by
  rw [c_L h, wI_eq]; rfl)
set_option maxRecDepth 100000 in
theorem c_G {G : xG} {Y : xY} {b : Nat} (h : xSg Y b) (M : xMem) : xo G Y M b = some (.inr (2, [.ref (b + 1), .int (M.1 b 1), .int (M.1 b 2)])) := by
  have e1 : Y.2.1 b = 3 := h.1
  have e2 : Y.2.2 b = b := h.2.2
  unfold xo xcell
  rw [e1, e2]; rfl
set_option maxRecDepth 100000 in
theorem w_G_1 {G : xG} {Y : xY} {b : Nat} (h : xSg Y b) (M : xMem) (v : Int32) : xu (xo G Y M) b (.inr (2, List.set [.ref (b + 1), .int (M.1 b 1), .int (M.1 b 2)] 1 (.int v))) = xo G Y (wI M b 1 v) := xo_w xo_wI_ne (by
  rw [c_G h, wI_eq]; rfl)
set_option maxRecDepth 100000 in
theorem w_G_2 {G : xG} {Y : xY} {b : Nat} (h : xSg Y b) (M : xMem) (v : Int32) : xu (xo G Y M) b (.inr (2, List.set [.ref (b + 1), .int (M.1 b 1), .int (M.1 b 2)] 2 (.int v))) = xo G Y (wI M b 2 v) := xo_w xo_wI_ne (by
  rw [c_G h, wI_eq]; rfl)
set_option maxRecDepth 100000 in
theorem c_T {G : xG} {Y : xY} {b : Nat} (h : xRd Y b) (M : xMem) : xo G Y M (b + 2) = some (.inr (3, [.ref b, .ref (b + 3), .ref (b + 4), .ref (b + 5), .ref (b + 6), .ref (b + 7), .int (M.1 (b + 2) 6)])) := by
  have e1 : Y.2.1 (b + 2) = 4 := (h 2 (by decide)).1
  have e2 : Y.2.2 (b + 2) = b := (h 2 (by decide)).2
  unfold xo xcell
  rw [e1, e2]; rfl
set_option maxRecDepth 100000 in
theorem w_T_6 {G : xG} {Y : xY} {b : Nat} (h : xRd Y b) (M : xMem) (v : Int32) : xu (xo G Y M) (b + 2) (.inr (3, List.set [.ref b, .ref (b + 3), .ref (b + 4), .ref (b + 5), .ref (b + 6), .ref (b + 7), .int (M.1 (b + 2) 6)] 6 (.int v))) = xo G Y (wI M (b + 2) 6 v) := xo_w xo_wI_ne (by
  rw [c_T h, wI_eq]; rfl)
set_option maxRecDepth 100000 in
theorem c_S {G : xG} {Y : xY} {b : Nat} (h : xRd Y b) (M : xMem) : xo G Y M (b + 8) = some (.inr (4, [.ref (b + 9), .ref (b + 10), .ref (b + 11), .int (M.1 (b + 8) 3)])) := by
  have e1 : Y.2.1 (b + 8) = 5 := (h 8 (by decide)).1
  have e2 : Y.2.2 (b + 8) = b := (h 8 (by decide)).2
  unfold xo xcell
  rw [e1, e2]; rfl
set_option maxRecDepth 100000 in
theorem w_S_3 {G : xG} {Y : xY} {b : Nat} (h : xRd Y b) (M : xMem) (v : Int32) : xu (xo G Y M) (b + 8) (.inr (4, List.set [.ref (b + 9), .ref (b + 10), .ref (b + 11), .int (M.1 (b + 8) 3)] 3 (.int v))) = xo G Y (wI M (b + 8) 3 v) := xo_w xo_wI_ne (by
  rw [c_S h, wI_eq]; rfl)
set_option maxRecDepth 100000 in
theorem c_H {G : xG} {Y : xY} {b : Nat} (h : xRd Y b) (M : xMem) : xo G Y M (b + 12) = some (.inr (5, [.ref (b + 13), .ref (b + 14), .ref (b + 15), .ref (b + 16), .ref (b + 17), .ref (b + 18), .ref (b + 19), .ref (b + 20), .int (M.1 (b + 12) 8)])) := by
  have e1 : Y.2.1 (b + 12) = 6 := (h 12 (by decide)).1
  have e2 : Y.2.2 (b + 12) = b := (h 12 (by decide)).2
  unfold xo xcell
  rw [e1, e2]; rfl
set_option maxRecDepth 100000 in
theorem w_H_8 {G : xG} {Y : xY} {b : Nat} (h : xRd Y b) (M : xMem) (v : Int32) : xu (xo G Y M) (b + 12) (.inr (5, List.set [.ref (b + 13), .ref (b + 14), .ref (b + 15), .ref (b + 16), .ref (b + 17), .ref (b + 18), .ref (b + 19), .ref (b + 20), .int (M.1 (b + 12) 8)] 8 (.int v))) = xo G Y (wI M (b + 12) 8 v) := xo_w xo_wI_ne (by
  rw [c_H h, wI_eq]; rfl)
set_option maxRecDepth 100000 in
theorem c_M {G : xG} {Y : xY} {b : Nat} (h : xRd Y b) (M : xMem) : xo G Y M (b + 21) = some (.inr (6, [.ref (b + 22), .ref (b + 23), .ref (b + 24)])) := by
  have e1 : Y.2.1 (b + 21) = 7 := (h 21 (by decide)).1
  have e2 : Y.2.2 (b + 21) = b := (h 21 (by decide)).2
  unfold xo xcell
  rw [e1, e2]; rfl
set_option maxRecDepth 100000 in
theorem c_B {G : xG} {Y : xY} {b : Nat} (h : xRd Y b) (M : xMem) : xo G Y M (b + 25) = some (.inr (7, [.ref (b + 2), .ref (b + 8), .ref (b + 12), .ref (b + 21), .ref (b + 26), .ref (b + 27), .ref (b + 28), .int (M.1 (b + 25) 7), .int (M.1 (b + 25) 8)])) := by
  have e1 : Y.2.1 (b + 25) = 8 := (h 25 (by decide)).1
  have e2 : Y.2.2 (b + 25) = b := (h 25 (by decide)).2
  unfold xo xcell
  rw [e1, e2]; rfl
set_option maxRecDepth 100000 in
theorem w_B_7 {G : xG} {Y : xY} {b : Nat} (h : xRd Y b) (M : xMem) (v : Int32) : xu (xo G Y M) (b + 25) (.inr (7, List.set [.ref (b + 2), .ref (b + 8), .ref (b + 12), .ref (b + 21), .ref (b + 26), .ref (b + 27), .ref (b + 28), .int (M.1 (b + 25) 7), .int (M.1 (b + 25) 8)] 7 (.int v))) = xo G Y (wI M (b + 25) 7 v) := xo_w xo_wI_ne (by
  rw [c_B h, wI_eq]; rfl)
set_option maxRecDepth 100000 in
theorem w_B_8 {G : xG} {Y : xY} {b : Nat} (h : xRd Y b) (M : xMem) (v : Int32) : xu (xo G Y M) (b + 25) (.inr (7, List.set [.ref (b + 2), .ref (b + 8), .ref (b + 12), .ref (b + 21), .ref (b + 26), .ref (b + 27), .ref (b + 28), .int (M.1 (b + 25) 7), .int (M.1 (b + 25) 8)] 8 (.int v))) = xo G Y (wI M (b + 25) 8 v) := xo_w xo_wI_ne (by
  rw [c_B h, wI_eq]; rfl)
set_option maxRecDepth 100000 in
theorem c_P {G : xG} {Y : xY} {b : Nat} (h : xRd Y b) (M : xMem) : xo G Y M (b + 29) = some (.inr (8, [.ref (b + 2), .ref (b + 8), .ref (b + 21), .ref (b + 25), .int (M.1 (b + 29) 4), .int (M.1 (b + 29) 5)])) := by
  have e1 : Y.2.1 (b + 29) = 9 := (h 29 (by decide)).1
  have e2 : Y.2.2 (b + 29) = b := (h 29 (by decide)).2
  unfold xo xcell
  rw [e1, e2]; rfl
set_option maxRecDepth 100000 in
theorem w_P_4 {G : xG} {Y : xY} {b : Nat} (h : xRd Y b) (M : xMem) (v : Int32) : xu (xo G Y M) (b + 29) (.inr (8, List.set [.ref (b + 2), .ref (b + 8), .ref (b + 21), .ref (b + 25), .int (M.1 (b + 29) 4), .int (M.1 (b + 29) 5)] 4 (.int v))) = xo G Y (wI M (b + 29) 4 v) := xo_w xo_wI_ne (by
  rw [c_P h, wI_eq]; rfl)
set_option maxRecDepth 100000 in
theorem w_P_5 {G : xG} {Y : xY} {b : Nat} (h : xRd Y b) (M : xMem) (v : Int32) : xu (xo G Y M) (b + 29) (.inr (8, List.set [.ref (b + 2), .ref (b + 8), .ref (b + 21), .ref (b + 25), .int (M.1 (b + 29) 4), .int (M.1 (b + 29) 5)] 5 (.int v))) = xo G Y (wI M (b + 29) 5 v) := xo_w xo_wI_ne (by
  rw [c_P h, wI_eq]; rfl)
set_option maxRecDepth 100000 in
theorem c_R {G : xG} {Y : xY} {b : Nat} (h : xRd Y b) (M : xMem) : xo G Y M (b + 30) = some (.inr (9, [.ref b, .ref (b + 2), .ref (b + 8), .ref (b + 12), .ref (b + 21), .ref (b + 25), .ref (b + 29)])) := by
  have e1 : Y.2.1 (b + 30) = 10 := (h 30 (by decide)).1
  have e2 : Y.2.2 (b + 30) = b := (h 30 (by decide)).2
  unfold xo xcell
  rw [e1, e2]; rfl
set_option maxRecDepth 100000 in
theorem c_N {G : xG} {Y : xY} {b : Nat} (h : xMd Y b) (M : xMem) : xo G Y M b = some (.inr (10, [.int (M.1 b 0), .int (M.1 b 1), .int (M.1 b 2), .int (M.1 b 3), .int (M.1 b 4), .int (M.1 b 5), .int (M.1 b 6), .int (M.1 b 7), .int (M.1 b 8), .int (M.1 b 9), .ref (b + 1), .ref (b + 2), .ref (b + 3), .ref (b + 4), .ref (b + 5), .ref (b + 6), .ref (b + 7), .ref (b + 8), .ref (b + 9), .ref (b + 10), .ref (b + 11), .ref (b + 12), .ref (b + 13), .ref (b + 14), .ref (b + 15), .ref (b + 16), .ref (b + 17), .int (M.1 b 27), .int (M.1 b 28), .int (M.1 b 29), .ref (b + 18), .ref (b + 19), .ref (b + 20), .ref (b + 21), .ref (b + 22), .ref (b + 23), .int (M.1 b 36), .ref (b + 24), .ref (b + 25), .ref (b + 26), .ref (b + 27), .int (M.1 b 41), .ref (b + 28), .ref (b + 29), .ref (b + 30), .ref (b + 31), .ref (b + 32), .ref (b + 33), .ref (b + 34), .ref (b + 35), .ref (b + 36), .ref (b + 37), .ref (b + 38), .ref (b + 39), .int (M.1 b 54), .int (M.1 b 55), .int (M.1 b 56), .int (M.1 b 57), .int (M.1 b 58), .int (M.1 b 59), .int (M.1 b 60), .ref (b + 40), .ref (b + 41), .int (M.1 b 63), .int (M.1 b 64)])) := by
  have e1 : Y.2.1 b = 11 := (h 0 (by decide)).1
  have e2 : Y.2.2 b = b := (h 0 (by decide)).2
  unfold xo xcell
  rw [e1, e2]; rfl
set_option maxRecDepth 100000 in
theorem w_N_0 {G : xG} {Y : xY} {b : Nat} (h : xMd Y b) (M : xMem) (v : Int32) : xu (xo G Y M) b (.inr (10, List.set [.int (M.1 b 0), .int (M.1 b 1), .int (M.1 b 2), .int (M.1 b 3), .int (M.1 b 4), .int (M.1 b 5), .int (M.1 b 6), .int (M.1 b 7), .int (M.1 b 8), .int (M.1 b 9), .ref (b + 1), .ref (b + 2), .ref (b + 3), .ref (b + 4), .ref (b + 5), .ref (b + 6), .ref (b + 7), .ref (b + 8), .ref (b + 9), .ref (b + 10), .ref (b + 11), .ref (b + 12), .ref (b + 13), .ref (b + 14), .ref (b + 15), .ref (b + 16), .ref (b + 17), .int (M.1 b 27), .int (M.1 b 28), .int (M.1 b 29), .ref (b + 18), .ref (b + 19), .ref (b + 20), .ref (b + 21), .ref (b + 22), .ref (b + 23), .int (M.1 b 36), .ref (b + 24), .ref (b + 25), .ref (b + 26), .ref (b + 27), .int (M.1 b 41), .ref (b + 28), .ref (b + 29), .ref (b + 30), .ref (b + 31), .ref (b + 32), .ref (b + 33), .ref (b + 34), .ref (b + 35), .ref (b + 36), .ref (b + 37), .ref (b + 38), .ref (b + 39), .int (M.1 b 54), .int (M.1 b 55), .int (M.1 b 56), .int (M.1 b 57), .int (M.1 b 58), .int (M.1 b 59), .int (M.1 b 60), .ref (b + 40), .ref (b + 41), .int (M.1 b 63), .int (M.1 b 64)] 0 (.int v))) = xo G Y (wI M b 0 v) := xo_w xo_wI_ne (by
  rw [c_N h, wI_eq]; rfl)
set_option maxRecDepth 100000 in
theorem w_N_1 {G : xG} {Y : xY} {b : Nat} (h : xMd Y b) (M : xMem) (v : Int32) : xu (xo G Y M) b (.inr (10, List.set [.int (M.1 b 0), .int (M.1 b 1), .int (M.1 b 2), .int (M.1 b 3), .int (M.1 b 4), .int (M.1 b 5), .int (M.1 b 6), .int (M.1 b 7), .int (M.1 b 8), .int (M.1 b 9), .ref (b + 1), .ref (b + 2), .ref (b + 3), .ref (b + 4), .ref (b + 5), .ref (b + 6), .ref (b + 7), .ref (b + 8), .ref (b + 9), .ref (b + 10), .ref (b + 11), .ref (b + 12), .ref (b + 13), .ref (b + 14), .ref (b + 15), .ref (b + 16), .ref (b + 17), .int (M.1 b 27), .int (M.1 b 28), .int (M.1 b 29), .ref (b + 18), .ref (b + 19), .ref (b + 20), .ref (b + 21), .ref (b + 22), .ref (b + 23), .int (M.1 b 36), .ref (b + 24), .ref (b + 25), .ref (b + 26), .ref (b + 27), .int (M.1 b 41), .ref (b + 28), .ref (b + 29), .ref (b + 30), .ref (b + 31), .ref (b + 32), .ref (b + 33), .ref (b + 34), .ref (b + 35), .ref (b + 36), .ref (b + 37), .ref (b + 38), .ref (b + 39), .int (M.1 b 54), .int (M.1 b 55), .int (M.1 b 56), .int (M.1 b 57), .int (M.1 b 58), .int (M.1 b 59), .int (M.1 b 60), .ref (b + 40), .ref (b + 41), .int (M.1 b 63), .int (M.1 b 64)] 1 (.int v))) = xo G Y (wI M b 1 v) := xo_w xo_wI_ne (by
  rw [c_N h, wI_eq]; rfl)
set_option maxRecDepth 100000 in
theorem w_N_2 {G : xG} {Y : xY} {b : Nat} (h : xMd Y b) (M : xMem) (v : Int32) : xu (xo G Y M) b (.inr (10, List.set [.int (M.1 b 0), .int (M.1 b 1), .int (M.1 b 2), .int (M.1 b 3), .int (M.1 b 4), .int (M.1 b 5), .int (M.1 b 6), .int (M.1 b 7), .int (M.1 b 8), .int (M.1 b 9), .ref (b + 1), .ref (b + 2), .ref (b + 3), .ref (b + 4), .ref (b + 5), .ref (b + 6), .ref (b + 7), .ref (b + 8), .ref (b + 9), .ref (b + 10), .ref (b + 11), .ref (b + 12), .ref (b + 13), .ref (b + 14), .ref (b + 15), .ref (b + 16), .ref (b + 17), .int (M.1 b 27), .int (M.1 b 28), .int (M.1 b 29), .ref (b + 18), .ref (b + 19), .ref (b + 20), .ref (b + 21), .ref (b + 22), .ref (b + 23), .int (M.1 b 36), .ref (b + 24), .ref (b + 25), .ref (b + 26), .ref (b + 27), .int (M.1 b 41), .ref (b + 28), .ref (b + 29), .ref (b + 30), .ref (b + 31), .ref (b + 32), .ref (b + 33), .ref (b + 34), .ref (b + 35), .ref (b + 36), .ref (b + 37), .ref (b + 38), .ref (b + 39), .int (M.1 b 54), .int (M.1 b 55), .int (M.1 b 56), .int (M.1 b 57), .int (M.1 b 58), .int (M.1 b 59), .int (M.1 b 60), .ref (b + 40), .ref (b + 41), .int (M.1 b 63), .int (M.1 b 64)] 2 (.int v))) = xo G Y (wI M b 2 v) := xo_w xo_wI_ne (by
  rw [c_N h, wI_eq]; rfl)
set_option maxRecDepth 100000 in
theorem w_N_3 {G : xG} {Y : xY} {b : Nat} (h : xMd Y b) (M : xMem) (v : Int32) : xu (xo G Y M) b (.inr (10, List.set [.int (M.1 b 0), .int (M.1 b 1), .int (M.1 b 2), .int (M.1 b 3), .int (M.1 b 4), .int (M.1 b 5), .int (M.1 b 6), .int (M.1 b 7), .int (M.1 b 8), .int (M.1 b 9), .ref (b + 1), .ref (b + 2), .ref (b + 3), .ref (b + 4), .ref (b + 5), .ref (b + 6), .ref (b + 7), .ref (b + 8), .ref (b + 9), .ref (b + 10), .ref (b + 11), .ref (b + 12), .ref (b + 13), .ref (b + 14), .ref (b + 15), .ref (b + 16), .ref (b + 17), .int (M.1 b 27), .int (M.1 b 28), .int (M.1 b 29), .ref (b + 18), .ref (b + 19), .ref (b + 20), .ref (b + 21), .ref (b + 22), .ref (b + 23), .int (M.1 b 36), .ref (b + 24), .ref (b + 25), .ref (b + 26), .ref (b + 27), .int (M.1 b 41), .ref (b + 28), .ref (b + 29), .ref (b + 30), .ref (b + 31), .ref (b + 32), .ref (b + 33), .ref (b + 34), .ref (b + 35), .ref (b + 36), .ref (b + 37), .ref (b + 38), .ref (b + 39), .int (M.1 b 54), .int (M.1 b 55), .int (M.1 b 56), .int (M.1 b 57), .int (M.1 b 58), .int (M.1 b 59), .int (M.1 b 60), .ref (b + 40), .ref (b + 41), .int (M.1 b 63), .int (M.1 b 64)] 3 (.int v))) = xo G Y (wI M b 3 v) := xo_w xo_wI_ne (by
  rw [c_N h, wI_eq]; rfl)
set_option maxRecDepth 100000 in
theorem w_N_4 {G : xG} {Y : xY} {b : Nat} (h : xMd Y b) (M : xMem) (v : Int32) : xu (xo G Y M) b (.inr (10, List.set [.int (M.1 b 0), .int (M.1 b 1), .int (M.1 b 2), .int (M.1 b 3), .int (M.1 b 4), .int (M.1 b 5), .int (M.1 b 6), .int (M.1 b 7), .int (M.1 b 8), .int (M.1 b 9), .ref (b + 1), .ref (b + 2), .ref (b + 3), .ref (b + 4), .ref (b + 5), .ref (b + 6), .ref (b + 7), .ref (b + 8), .ref (b + 9), .ref (b + 10), .ref (b + 11), .ref (b + 12), .ref (b + 13), .ref (b + 14), .ref (b + 15), .ref (b + 16), .ref (b + 17), .int (M.1 b 27), .int (M.1 b 28), .int (M.1 b 29), .ref (b + 18), .ref (b + 19), .ref (b + 20), .ref (b + 21), .ref (b + 22), .ref (b + 23), .int (M.1 b 36), .ref (b + 24), .ref (b + 25), .ref (b + 26), .ref (b + 27), .int (M.1 b 41), .ref (b + 28), .ref (b + 29), .ref (b + 30), .ref (b + 31), .ref (b + 32), .ref (b + 33), .ref (b + 34), .ref (b + 35), .ref (b + 36), .ref (b + 37), .ref (b + 38), .ref (b + 39), .int (M.1 b 54), .int (M.1 b 55), .int (M.1 b 56), .int (M.1 b 57), .int (M.1 b 58), .int (M.1 b 59), .int (M.1 b 60), .ref (b + 40), .ref (b + 41), .int (M.1 b 63), .int (M.1 b 64)] 4 (.int v))) = xo G Y (wI M b 4 v) := xo_w xo_wI_ne (by
  rw [c_N h, wI_eq]; rfl)
set_option maxRecDepth 100000 in
theorem w_N_5 {G : xG} {Y : xY} {b : Nat} (h : xMd Y b) (M : xMem) (v : Int32) : xu (xo G Y M) b (.inr (10, List.set [.int (M.1 b 0), .int (M.1 b 1), .int (M.1 b 2), .int (M.1 b 3), .int (M.1 b 4), .int (M.1 b 5), .int (M.1 b 6), .int (M.1 b 7), .int (M.1 b 8), .int (M.1 b 9), .ref (b + 1), .ref (b + 2), .ref (b + 3), .ref (b + 4), .ref (b + 5), .ref (b + 6), .ref (b + 7), .ref (b + 8), .ref (b + 9), .ref (b + 10), .ref (b + 11), .ref (b + 12), .ref (b + 13), .ref (b + 14), .ref (b + 15), .ref (b + 16), .ref (b + 17), .int (M.1 b 27), .int (M.1 b 28), .int (M.1 b 29), .ref (b + 18), .ref (b + 19), .ref (b + 20), .ref (b + 21), .ref (b + 22), .ref (b + 23), .int (M.1 b 36), .ref (b + 24), .ref (b + 25), .ref (b + 26), .ref (b + 27), .int (M.1 b 41), .ref (b + 28), .ref (b + 29), .ref (b + 30), .ref (b + 31), .ref (b + 32), .ref (b + 33), .ref (b + 34), .ref (b + 35), .ref (b + 36), .ref (b + 37), .ref (b + 38), .ref (b + 39), .int (M.1 b 54), .int (M.1 b 55), .int (M.1 b 56), .int (M.1 b 57), .int (M.1 b 58), .int (M.1 b 59), .int (M.1 b 60), .ref (b + 40), .ref (b + 41), .int (M.1 b 63), .int (M.1 b 64)] 5 (.int v))) = xo G Y (wI M b 5 v) := xo_w xo_wI_ne (by
  rw [c_N h, wI_eq]; rfl)
set_option maxRecDepth 100000 in
theorem w_N_6 {G : xG} {Y : xY} {b : Nat} (h : xMd Y b) (M : xMem) (v : Int32) : xu (xo G Y M) b (.inr (10, List.set [.int (M.1 b 0), .int (M.1 b 1), .int (M.1 b 2), .int (M.1 b 3), .int (M.1 b 4), .int (M.1 b 5), .int (M.1 b 6), .int (M.1 b 7), .int (M.1 b 8), .int (M.1 b 9), .ref (b + 1), .ref (b + 2), .ref (b + 3), .ref (b + 4), .ref (b + 5), .ref (b + 6), .ref (b + 7), .ref (b + 8), .ref (b + 9), .ref (b + 10), .ref (b + 11), .ref (b + 12), .ref (b + 13), .ref (b + 14), .ref (b + 15), .ref (b + 16), .ref (b + 17), .int (M.1 b 27), .int (M.1 b 28), .int (M.1 b 29), .ref (b + 18), .ref (b + 19), .ref (b + 20), .ref (b + 21), .ref (b + 22), .ref (b + 23), .int (M.1 b 36), .ref (b + 24), .ref (b + 25), .ref (b + 26), .ref (b + 27), .int (M.1 b 41), .ref (b + 28), .ref (b + 29), .ref (b + 30), .ref (b + 31), .ref (b + 32), .ref (b + 33), .ref (b + 34), .ref (b + 35), .ref (b + 36), .ref (b + 37), .ref (b + 38), .ref (b + 39), .int (M.1 b 54), .int (M.1 b 55), .int (M.1 b 56), .int (M.1 b 57), .int (M.1 b 58), .int (M.1 b 59), .int (M.1 b 60), .ref (b + 40), .ref (b + 41), .int (M.1 b 63), .int (M.1 b 64)] 6 (.int v))) = xo G Y (wI M b 6 v) := xo_w xo_wI_ne (by
  rw [c_N h, wI_eq]; rfl)
set_option maxRecDepth 100000 in
theorem w_N_7 {G : xG} {Y : xY} {b : Nat} (h : xMd Y b) (M : xMem) (v : Int32) : xu (xo G Y M) b (.inr (10, List.set [.int (M.1 b 0), .int (M.1 b 1), .int (M.1 b 2), .int (M.1 b 3), .int (M.1 b 4), .int (M.1 b 5), .int (M.1 b 6), .int (M.1 b 7), .int (M.1 b 8), .int (M.1 b 9), .ref (b + 1), .ref (b + 2), .ref (b + 3), .ref (b + 4), .ref (b + 5), .ref (b + 6), .ref (b + 7), .ref (b + 8), .ref (b + 9), .ref (b + 10), .ref (b + 11), .ref (b + 12), .ref (b + 13), .ref (b + 14), .ref (b + 15), .ref (b + 16), .ref (b + 17), .int (M.1 b 27), .int (M.1 b 28), .int (M.1 b 29), .ref (b + 18), .ref (b + 19), .ref (b + 20), .ref (b + 21), .ref (b + 22), .ref (b + 23), .int (M.1 b 36), .ref (b + 24), .ref (b + 25), .ref (b + 26), .ref (b + 27), .int (M.1 b 41), .ref (b + 28), .ref (b + 29), .ref (b + 30), .ref (b + 31), .ref (b + 32), .ref (b + 33), .ref (b + 34), .ref (b + 35), .ref (b + 36), .ref (b + 37), .ref (b + 38), .ref (b + 39), .int (M.1 b 54), .int (M.1 b 55), .int (M.1 b 56), .int (M.1 b 57), .int (M.1 b 58), .int (M.1 b 59), .int (M.1 b 60), .ref (b + 40), .ref (b + 41), .int (M.1 b 63), .int (M.1 b 64)] 7 (.int v))) = xo G Y (wI M b 7 v) := xo_w xo_wI_ne (by
  rw [c_N h, wI_eq]; rfl)
set_option maxRecDepth 100000 in
theorem w_N_8 {G : xG} {Y : xY} {b : Nat} (h : xMd Y b) (M : xMem) (v : Int32) : xu (xo G Y M) b (.inr (10, List.set [.int (M.1 b 0), .int (M.1 b 1), .int (M.1 b 2), .int (M.1 b 3), .int (M.1 b 4), .int (M.1 b 5), .int (M.1 b 6), .int (M.1 b 7), .int (M.1 b 8), .int (M.1 b 9), .ref (b + 1), .ref (b + 2), .ref (b + 3), .ref (b + 4), .ref (b + 5), .ref (b + 6), .ref (b + 7), .ref (b + 8), .ref (b + 9), .ref (b + 10), .ref (b + 11), .ref (b + 12), .ref (b + 13), .ref (b + 14), .ref (b + 15), .ref (b + 16), .ref (b + 17), .int (M.1 b 27), .int (M.1 b 28), .int (M.1 b 29), .ref (b + 18), .ref (b + 19), .ref (b + 20), .ref (b + 21), .ref (b + 22), .ref (b + 23), .int (M.1 b 36), .ref (b + 24), .ref (b + 25), .ref (b + 26), .ref (b + 27), .int (M.1 b 41), .ref (b + 28), .ref (b + 29), .ref (b + 30), .ref (b + 31), .ref (b + 32), .ref (b + 33), .ref (b + 34), .ref (b + 35), .ref (b + 36), .ref (b + 37), .ref (b + 38), .ref (b + 39), .int (M.1 b 54), .int (M.1 b 55), .int (M.1 b 56), .int (M.1 b 57), .int (M.1 b 58), .int (M.1 b 59), .int (M.1 b 60), .ref (b + 40), .ref (b + 41), .int (M.1 b 63), .int (M.1 b 64)] 8 (.int v))) = xo G Y (wI M b 8 v) := xo_w xo_wI_ne (by
  rw [c_N h, wI_eq]; rfl)
set_option maxRecDepth 100000 in
theorem w_N_9 {G : xG} {Y : xY} {b : Nat} (h : xMd Y b) (M : xMem) (v : Int32) : xu (xo G Y M) b (.inr (10, List.set [.int (M.1 b 0), .int (M.1 b 1), .int (M.1 b 2), .int (M.1 b 3), .int (M.1 b 4), .int (M.1 b 5), .int (M.1 b 6), .int (M.1 b 7), .int (M.1 b 8), .int (M.1 b 9), .ref (b + 1), .ref (b + 2), .ref (b + 3), .ref (b + 4), .ref (b + 5), .ref (b + 6), .ref (b + 7), .ref (b + 8), .ref (b + 9), .ref (b + 10), .ref (b + 11), .ref (b + 12), .ref (b + 13), .ref (b + 14), .ref (b + 15), .ref (b + 16), .ref (b + 17), .int (M.1 b 27), .int (M.1 b 28), .int (M.1 b 29), .ref (b + 18), .ref (b + 19), .ref (b + 20), .ref (b + 21), .ref (b + 22), .ref (b + 23), .int (M.1 b 36), .ref (b + 24), .ref (b + 25), .ref (b + 26), .ref (b + 27), .int (M.1 b 41), .ref (b + 28), .ref (b + 29), .ref (b + 30), .ref (b + 31), .ref (b + 32), .ref (b + 33), .ref (b + 34), .ref (b + 35), .ref (b + 36), .ref (b + 37), .ref (b + 38), .ref (b + 39), .int (M.1 b 54), .int (M.1 b 55), .int (M.1 b 56), .int (M.1 b 57), .int (M.1 b 58), .int (M.1 b 59), .int (M.1 b 60), .ref (b + 40), .ref (b + 41), .int (M.1 b 63), .int (M.1 b 64)] 9 (.int v))) = xo G Y (wI M b 9 v) := xo_w xo_wI_ne (by
  rw [c_N h, wI_eq]; rfl)
set_option maxRecDepth 100000 in
theorem w_N_27 {G : xG} {Y : xY} {b : Nat} (h : xMd Y b) (M : xMem) (v : Int32) : xu (xo G Y M) b (.inr (10, List.set [.int (M.1 b 0), .int (M.1 b 1), .int (M.1 b 2), .int (M.1 b 3), .int (M.1 b 4), .int (M.1 b 5), .int (M.1 b 6), .int (M.1 b 7), .int (M.1 b 8), .int (M.1 b 9), .ref (b + 1), .ref (b + 2), .ref (b + 3), .ref (b + 4), .ref (b + 5), .ref (b + 6), .ref (b + 7), .ref (b + 8), .ref (b + 9), .ref (b + 10), .ref (b + 11), .ref (b + 12), .ref (b + 13), .ref (b + 14), .ref (b + 15), .ref (b + 16), .ref (b + 17), .int (M.1 b 27), .int (M.1 b 28), .int (M.1 b 29), .ref (b + 18), .ref (b + 19), .ref (b + 20), .ref (b + 21), .ref (b + 22), .ref (b + 23), .int (M.1 b 36), .ref (b + 24), .ref (b + 25), .ref (b + 26), .ref (b + 27), .int (M.1 b 41), .ref (b + 28), .ref (b + 29), .ref (b + 30), .ref (b + 31), .ref (b + 32), .ref (b + 33), .ref (b + 34), .ref (b + 35), .ref (b + 36), .ref (b + 37), .ref (b + 38), .ref (b + 39), .int (M.1 b 54), .int (M.1 b 55), .int (M.1 b 56), .int (M.1 b 57), .int (M.1 b 58), .int (M.1 b 59), .int (M.1 b 60), .ref (b + 40), .ref (b + 41), .int (M.1 b 63), .int (M.1 b 64)] 27 (.int v))) = xo G Y (wI M b 27 v) := xo_w xo_wI_ne (by
  rw [c_N h, wI_eq]; rfl)
set_option maxRecDepth 100000 in
theorem w_N_28 {G : xG} {Y : xY} {b : Nat} (h : xMd Y b) (M : xMem) (v : Int32) : xu (xo G Y M) b (.inr (10, List.set [.int (M.1 b 0), .int (M.1 b 1), .int (M.1 b 2), .int (M.1 b 3), .int (M.1 b 4), .int (M.1 b 5), .int (M.1 b 6), .int (M.1 b 7), .int (M.1 b 8), .int (M.1 b 9), .ref (b + 1), .ref (b + 2), .ref (b + 3), .ref (b + 4), .ref (b + 5), .ref (b + 6), .ref (b + 7), .ref (b + 8), .ref (b + 9), .ref (b + 10), .ref (b + 11), .ref (b + 12), .ref (b + 13), .ref (b + 14), .ref (b + 15), .ref (b + 16), .ref (b + 17), .int (M.1 b 27), .int (M.1 b 28), .int (M.1 b 29), .ref (b + 18), .ref (b + 19), .ref (b + 20), .ref (b + 21), .ref (b + 22), .ref (b + 23), .int (M.1 b 36), .ref (b + 24), .ref (b + 25), .ref (b + 26), .ref (b + 27), .int (M.1 b 41), .ref (b + 28), .ref (b + 29), .ref (b + 30), .ref (b + 31), .ref (b + 32), .ref (b + 33), .ref (b + 34), .ref (b + 35), .ref (b + 36), .ref (b + 37), .ref (b + 38), .ref (b + 39), .int (M.1 b 54), .int (M.1 b 55), .int (M.1 b 56), .int (M.1 b 57), .int (M.1 b 58), .int (M.1 b 59), .int (M.1 b 60), .ref (b + 40), .ref (b + 41), .int (M.1 b 63), .int (M.1 b 64)] 28 (.int v))) = xo G Y (wI M b 28 v) := xo_w xo_wI_ne (by
  rw [c_N h, wI_eq]; rfl)
set_option maxRecDepth 100000 in
theorem w_N_29 {G : xG} {Y : xY} {b : Nat} (h : xMd Y b) (M : xMem) (v : Int32) : xu (xo G Y M) b (.inr (10, List.set [.int (M.1 b 0), .int (M.1 b 1), .int (M.1 b 2), .int (M.1 b 3), .int (M.1 b 4), .int (M.1 b 5), .int (M.1 b 6), .int (M.1 b 7), .int (M.1 b 8), .int (M.1 b 9), .ref (b + 1), .ref (b + 2), .ref (b + 3), .ref (b + 4), .ref (b + 5), .ref (b + 6), .ref (b + 7), .ref (b + 8), .ref (b + 9), .ref (b + 10), .ref (b + 11), .ref (b + 12), .ref (b + 13), .ref (b + 14), .ref (b + 15), .ref (b + 16), .ref (b + 17), .int (M.1 b 27), .int (M.1 b 28), .int (M.1 b 29), .ref (b + 18), .ref (b + 19), .ref (b + 20), .ref (b + 21), .ref (b + 22), .ref (b + 23), .int (M.1 b 36), .ref (b + 24), .ref (b + 25), .ref (b + 26), .ref (b + 27), .int (M.1 b 41), .ref (b + 28), .ref (b + 29), .ref (b + 30), .ref (b + 31), .ref (b + 32), .ref (b + 33), .ref (b + 34), .ref (b + 35), .ref (b + 36), .ref (b + 37), .ref (b + 38), .ref (b + 39), .int (M.1 b 54), .int (M.1 b 55), .int (M.1 b 56), .int (M.1 b 57), .int (M.1 b 58), .int (M.1 b 59), .int (M.1 b 60), .ref (b + 40), .ref (b + 41), .int (M.1 b 63), .int (M.1 b 64)] 29 (.int v))) = xo G Y (wI M b 29 v) := xo_w xo_wI_ne (by
  rw [c_N h, wI_eq]; rfl)
set_option maxRecDepth 100000 in
theorem w_N_36 {G : xG} {Y : xY} {b : Nat} (h : xMd Y b) (M : xMem) (v : Int32) : xu (xo G Y M) b (.inr (10, List.set [.int (M.1 b 0), .int (M.1 b 1), .int (M.1 b 2), .int (M.1 b 3), .int (M.1 b 4), .int (M.1 b 5), .int (M.1 b 6), .int (M.1 b 7), .int (M.1 b 8), .int (M.1 b 9), .ref (b + 1), .ref (b + 2), .ref (b + 3), .ref (b + 4), .ref (b + 5), .ref (b + 6), .ref (b + 7), .ref (b + 8), .ref (b + 9), .ref (b + 10), .ref (b + 11), .ref (b + 12), .ref (b + 13), .ref (b + 14), .ref (b + 15), .ref (b + 16), .ref (b + 17), .int (M.1 b 27), .int (M.1 b 28), .int (M.1 b 29), .ref (b + 18), .ref (b + 19), .ref (b + 20), .ref (b + 21), .ref (b + 22), .ref (b + 23), .int (M.1 b 36), .ref (b + 24), .ref (b + 25), .ref (b + 26), .ref (b + 27), .int (M.1 b 41), .ref (b + 28), .ref (b + 29), .ref (b + 30), .ref (b + 31), .ref (b + 32), .ref (b + 33), .ref (b + 34), .ref (b + 35), .ref (b + 36), .ref (b + 37), .ref (b + 38), .ref (b + 39), .int (M.1 b 54), .int (M.1 b 55), .int (M.1 b 56), .int (M.1 b 57), .int (M.1 b 58), .int (M.1 b 59), .int (M.1 b 60), .ref (b + 40), .ref (b + 41), .int (M.1 b 63), .int (M.1 b 64)] 36 (.int v))) = xo G Y (wI M b 36 v) := xo_w xo_wI_ne (by
  rw [c_N h, wI_eq]; rfl)
set_option maxRecDepth 100000 in
theorem w_N_41 {G : xG} {Y : xY} {b : Nat} (h : xMd Y b) (M : xMem) (v : Int32) : xu (xo G Y M) b (.inr (10, List.set [.int (M.1 b 0), .int (M.1 b 1), .int (M.1 b 2), .int (M.1 b 3), .int (M.1 b 4), .int (M.1 b 5), .int (M.1 b 6), .int (M.1 b 7), .int (M.1 b 8), .int (M.1 b 9), .ref (b + 1), .ref (b + 2), .ref (b + 3), .ref (b + 4), .ref (b + 5), .ref (b + 6), .ref (b + 7), .ref (b + 8), .ref (b + 9), .ref (b + 10), .ref (b + 11), .ref (b + 12), .ref (b + 13), .ref (b + 14), .ref (b + 15), .ref (b + 16), .ref (b + 17), .int (M.1 b 27), .int (M.1 b 28), .int (M.1 b 29), .ref (b + 18), .ref (b + 19), .ref (b + 20), .ref (b + 21), .ref (b + 22), .ref (b + 23), .int (M.1 b 36), .ref (b + 24), .ref (b + 25), .ref (b + 26), .ref (b + 27), .int (M.1 b 41), .ref (b + 28), .ref (b + 29), .ref (b + 30), .ref (b + 31), .ref (b + 32), .ref (b + 33), .ref (b + 34), .ref (b + 35), .ref (b + 36), .ref (b + 37), .ref (b + 38), .ref (b + 39), .int (M.1 b 54), .int (M.1 b 55), .int (M.1 b 56), .int (M.1 b 57), .int (M.1 b 58), .int (M.1 b 59), .int (M.1 b 60), .ref (b + 40), .ref (b + 41), .int (M.1 b 63), .int (M.1 b 64)] 41 (.int v))) = xo G Y (wI M b 41 v) := xo_w xo_wI_ne (by
  rw [c_N h, wI_eq]; rfl)
set_option maxRecDepth 100000 in
theorem w_N_54 {G : xG} {Y : xY} {b : Nat} (h : xMd Y b) (M : xMem) (v : Int32) : xu (xo G Y M) b (.inr (10, List.set [.int (M.1 b 0), .int (M.1 b 1), .int (M.1 b 2), .int (M.1 b 3), .int (M.1 b 4), .int (M.1 b 5), .int (M.1 b 6), .int (M.1 b 7), .int (M.1 b 8), .int (M.1 b 9), .ref (b + 1), .ref (b + 2), .ref (b + 3), .ref (b + 4), .ref (b + 5), .ref (b + 6), .ref (b + 7), .ref (b + 8), .ref (b + 9), .ref (b + 10), .ref (b + 11), .ref (b + 12), .ref (b + 13), .ref (b + 14), .ref (b + 15), .ref (b + 16), .ref (b + 17), .int (M.1 b 27), .int (M.1 b 28), .int (M.1 b 29), .ref (b + 18), .ref (b + 19), .ref (b + 20), .ref (b + 21), .ref (b + 22), .ref (b + 23), .int (M.1 b 36), .ref (b + 24), .ref (b + 25), .ref (b + 26), .ref (b + 27), .int (M.1 b 41), .ref (b + 28), .ref (b + 29), .ref (b + 30), .ref (b + 31), .ref (b + 32), .ref (b + 33), .ref (b + 34), .ref (b + 35), .ref (b + 36), .ref (b + 37), .ref (b + 38), .ref (b + 39), .int (M.1 b 54), .int (M.1 b 55), .int (M.1 b 56), .int (M.1 b 57), .int (M.1 b 58), .int (M.1 b 59), .int (M.1 b 60), .ref (b + 40), .ref (b + 41), .int (M.1 b 63), .int (M.1 b 64)] 54 (.int v))) = xo G Y (wI M b 54 v) := xo_w xo_wI_ne (by
  rw [c_N h, wI_eq]; rfl)
set_option maxRecDepth 100000 in
theorem w_N_55 {G : xG} {Y : xY} {b : Nat} (h : xMd Y b) (M : xMem) (v : Int32) : xu (xo G Y M) b (.inr (10, List.set [.int (M.1 b 0), .int (M.1 b 1), .int (M.1 b 2), .int (M.1 b 3), .int (M.1 b 4), .int (M.1 b 5), .int (M.1 b 6), .int (M.1 b 7), .int (M.1 b 8), .int (M.1 b 9), .ref (b + 1), .ref (b + 2), .ref (b + 3), .ref (b + 4), .ref (b + 5), .ref (b + 6), .ref (b + 7), .ref (b + 8), .ref (b + 9), .ref (b + 10), .ref (b + 11), .ref (b + 12), .ref (b + 13), .ref (b + 14), .ref (b + 15), .ref (b + 16), .ref (b + 17), .int (M.1 b 27), .int (M.1 b 28), .int (M.1 b 29), .ref (b + 18), .ref (b + 19), .ref (b + 20), .ref (b + 21), .ref (b + 22), .ref (b + 23), .int (M.1 b 36), .ref (b + 24), .ref (b + 25), .ref (b + 26), .ref (b + 27), .int (M.1 b 41), .ref (b + 28), .ref (b + 29), .ref (b + 30), .ref (b + 31), .ref (b + 32), .ref (b + 33), .ref (b + 34), .ref (b + 35), .ref (b + 36), .ref (b + 37), .ref (b + 38), .ref (b + 39), .int (M.1 b 54), .int (M.1 b 55), .int (M.1 b 56), .int (M.1 b 57), .int (M.1 b 58), .int (M.1 b 59), .int (M.1 b 60), .ref (b + 40), .ref (b + 41), .int (M.1 b 63), .int (M.1 b 64)] 55 (.int v))) = xo G Y (wI M b 55 v) := xo_w xo_wI_ne (by
  rw [c_N h, wI_eq]; rfl)
set_option maxRecDepth 100000 in
theorem w_N_56 {G : xG} {Y : xY} {b : Nat} (h : xMd Y b) (M : xMem) (v : Int32) : xu (xo G Y M) b (.inr (10, List.set [.int (M.1 b 0), .int (M.1 b 1), .int (M.1 b 2), .int (M.1 b 3), .int (M.1 b 4), .int (M.1 b 5), .int (M.1 b 6), .int (M.1 b 7), .int (M.1 b 8), .int (M.1 b 9), .ref (b + 1), .ref (b + 2), .ref (b + 3), .ref (b + 4), .ref (b + 5), .ref (b + 6), .ref (b + 7), .ref (b + 8), .ref (b + 9), .ref (b + 10), .ref (b + 11), .ref (b + 12), .ref (b + 13), .ref (b + 14), .ref (b + 15), .ref (b + 16), .ref (b + 17), .int (M.1 b 27), .int (M.1 b 28), .int (M.1 b 29), .ref (b + 18), .ref (b + 19), .ref (b + 20), .ref (b + 21), .ref (b + 22), .ref (b + 23), .int (M.1 b 36), .ref (b + 24), .ref (b + 25), .ref (b + 26), .ref (b + 27), .int (M.1 b 41), .ref (b + 28), .ref (b + 29), .ref (b + 30), .ref (b + 31), .ref (b + 32), .ref (b + 33), .ref (b + 34), .ref (b + 35), .ref (b + 36), .ref (b + 37), .ref (b + 38), .ref (b + 39), .int (M.1 b 54), .int (M.1 b 55), .int (M.1 b 56), .int (M.1 b 57), .int (M.1 b 58), .int (M.1 b 59), .int (M.1 b 60), .ref (b + 40), .ref (b + 41), .int (M.1 b 63), .int (M.1 b 64)] 56 (.int v))) = xo G Y (wI M b 56 v) := xo_w xo_wI_ne (by
  rw [c_N h, wI_eq]; rfl)
set_option maxRecDepth 100000 in
theorem w_N_57 {G : xG} {Y : xY} {b : Nat} (h : xMd Y b) (M : xMem) (v : Int32) : xu (xo G Y M) b (.inr (10, List.set [.int (M.1 b 0), .int (M.1 b 1), .int (M.1 b 2), .int (M.1 b 3), .int (M.1 b 4), .int (M.1 b 5), .int (M.1 b 6), .int (M.1 b 7), .int (M.1 b 8), .int (M.1 b 9), .ref (b + 1), .ref (b + 2), .ref (b + 3), .ref (b + 4), .ref (b + 5), .ref (b + 6), .ref (b + 7), .ref (b + 8), .ref (b + 9), .ref (b + 10), .ref (b + 11), .ref (b + 12), .ref (b + 13), .ref (b + 14), .ref (b + 15), .ref (b + 16), .ref (b + 17), .int (M.1 b 27), .int (M.1 b 28), .int (M.1 b 29), .ref (b + 18), .ref (b + 19), .ref (b + 20), .ref (b + 21), .ref (b + 22), .ref (b + 23), .int (M.1 b 36), .ref (b + 24), .ref (b + 25), .ref (b + 26), .ref (b + 27), .int (M.1 b 41), .ref (b + 28), .ref (b + 29), .ref (b + 30), .ref (b + 31), .ref (b + 32), .ref (b + 33), .ref (b + 34), .ref (b + 35), .ref (b + 36), .ref (b + 37), .ref (b + 38), .ref (b + 39), .int (M.1 b 54), .int (M.1 b 55), .int (M.1 b 56), .int (M.1 b 57), .int (M.1 b 58), .int (M.1 b 59), .int (M.1 b 60), .ref (b + 40), .ref (b + 41), .int (M.1 b 63), .int (M.1 b 64)] 57 (.int v))) = xo G Y (wI M b 57 v) := xo_w xo_wI_ne (by
  rw [c_N h, wI_eq]; rfl)
set_option maxRecDepth 100000 in
theorem w_N_58 {G : xG} {Y : xY} {b : Nat} (h : xMd Y b) (M : xMem) (v : Int32) : xu (xo G Y M) b (.inr (10, List.set [.int (M.1 b 0), .int (M.1 b 1), .int (M.1 b 2), .int (M.1 b 3), .int (M.1 b 4), .int (M.1 b 5), .int (M.1 b 6), .int (M.1 b 7), .int (M.1 b 8), .int (M.1 b 9), .ref (b + 1), .ref (b + 2), .ref (b + 3), .ref (b + 4), .ref (b + 5), .ref (b + 6), .ref (b + 7), .ref (b + 8), .ref (b + 9), .ref (b + 10), .ref (b + 11), .ref (b + 12), .ref (b + 13), .ref (b + 14), .ref (b + 15), .ref (b + 16), .ref (b + 17), .int (M.1 b 27), .int (M.1 b 28), .int (M.1 b 29), .ref (b + 18), .ref (b + 19), .ref (b + 20), .ref (b + 21), .ref (b + 22), .ref (b + 23), .int (M.1 b 36), .ref (b + 24), .ref (b + 25), .ref (b + 26), .ref (b + 27), .int (M.1 b 41), .ref (b + 28), .ref (b + 29), .ref (b + 30), .ref (b + 31), .ref (b + 32), .ref (b + 33), .ref (b + 34), .ref (b + 35), .ref (b + 36), .ref (b + 37), .ref (b + 38), .ref (b + 39), .int (M.1 b 54), .int (M.1 b 55), .int (M.1 b 56), .int (M.1 b 57), .int (M.1 b 58), .int (M.1 b 59), .int (M.1 b 60), .ref (b + 40), .ref (b + 41), .int (M.1 b 63), .int (M.1 b 64)] 58 (.int v))) = xo G Y (wI M b 58 v) := xo_w xo_wI_ne (by
  rw [c_N h, wI_eq]; rfl)
set_option maxRecDepth 100000 in
theorem w_N_59 {G : xG} {Y : xY} {b : Nat} (h : xMd Y b) (M : xMem) (v : Int32) : xu (xo G Y M) b (.inr (10, List.set [.int (M.1 b 0), .int (M.1 b 1), .int (M.1 b 2), .int (M.1 b 3), .int (M.1 b 4), .int (M.1 b 5), .int (M.1 b 6), .int (M.1 b 7), .int (M.1 b 8), .int (M.1 b 9), .ref (b + 1), .ref (b + 2), .ref (b + 3), .ref (b + 4), .ref (b + 5), .ref (b + 6), .ref (b + 7), .ref (b + 8), .ref (b + 9), .ref (b + 10), .ref (b + 11), .ref (b + 12), .ref (b + 13), .ref (b + 14), .ref (b + 15), .ref (b + 16), .ref (b + 17), .int (M.1 b 27), .int (M.1 b 28), .int (M.1 b 29), .ref (b + 18), .ref (b + 19), .ref (b + 20), .ref (b + 21), .ref (b + 22), .ref (b + 23), .int (M.1 b 36), .ref (b + 24), .ref (b + 25), .ref (b + 26), .ref (b + 27), .int (M.1 b 41), .ref (b + 28), .ref (b + 29), .ref (b + 30), .ref (b + 31), .ref (b + 32), .ref (b + 33), .ref (b + 34), .ref (b + 35), .ref (b + 36), .ref (b + 37), .ref (b + 38), .ref (b + 39), .int (M.1 b 54), .int (M.1 b 55), .int (M.1 b 56), .int (M.1 b 57), .int (M.1 b 58), .int (M.1 b 59), .int (M.1 b 60), .ref (b + 40), .ref (b + 41), .int (M.1 b 63), .int (M.1 b 64)] 59 (.int v))) = xo G Y (wI M b 59 v) := xo_w xo_wI_ne (by
  rw [c_N h, wI_eq]; rfl)
set_option maxRecDepth 100000 in
theorem w_N_60 {G : xG} {Y : xY} {b : Nat} (h : xMd Y b) (M : xMem) (v : Int32) : xu (xo G Y M) b (.inr (10, List.set [.int (M.1 b 0), .int (M.1 b 1), .int (M.1 b 2), .int (M.1 b 3), .int (M.1 b 4), .int (M.1 b 5), .int (M.1 b 6), .int (M.1 b 7), .int (M.1 b 8), .int (M.1 b 9), .ref (b + 1), .ref (b + 2), .ref (b + 3), .ref (b + 4), .ref (b + 5), .ref (b + 6), .ref (b + 7), .ref (b + 8), .ref (b + 9), .ref (b + 10), .ref (b + 11), .ref (b + 12), .ref (b + 13), .ref (b + 14), .ref (b + 15), .ref (b + 16), .ref (b + 17), .int (M.1 b 27), .int (M.1 b 28), .int (M.1 b 29), .ref (b + 18), .ref (b + 19), .ref (b + 20), .ref (b + 21), .ref (b + 22), .ref (b + 23), .int (M.1 b 36), .ref (b + 24), .ref (b + 25), .ref (b + 26), .ref (b + 27), .int (M.1 b 41), .ref (b + 28), .ref (b + 29), .ref (b + 30), .ref (b + 31), .ref (b + 32), .ref (b + 33), .ref (b + 34), .ref (b + 35), .ref (b + 36), .ref (b + 37), .ref (b + 38), .ref (b + 39), .int (M.1 b 54), .int (M.1 b 55), .int (M.1 b 56), .int (M.1 b 57), .int (M.1 b 58), .int (M.1 b 59), .int (M.1 b 60), .ref (b + 40), .ref (b + 41), .int (M.1 b 63), .int (M.1 b 64)] 60 (.int v))) = xo G Y (wI M b 60 v) := xo_w xo_wI_ne (by
  rw [c_N h, wI_eq]; rfl)
set_option maxRecDepth 100000 in
theorem w_N_63 {G : xG} {Y : xY} {b : Nat} (h : xMd Y b) (M : xMem) (v : Int32) : xu (xo G Y M) b (.inr (10, List.set [.int (M.1 b 0), .int (M.1 b 1), .int (M.1 b 2), .int (M.1 b 3), .int (M.1 b 4), .int (M.1 b 5), .int (M.1 b 6), .int (M.1 b 7), .int (M.1 b 8), .int (M.1 b 9), .ref (b + 1), .ref (b + 2), .ref (b + 3), .ref (b + 4), .ref (b + 5), .ref (b + 6), .ref (b + 7), .ref (b + 8), .ref (b + 9), .ref (b + 10), .ref (b + 11), .ref (b + 12), .ref (b + 13), .ref (b + 14), .ref (b + 15), .ref (b + 16), .ref (b + 17), .int (M.1 b 27), .int (M.1 b 28), .int (M.1 b 29), .ref (b + 18), .ref (b + 19), .ref (b + 20), .ref (b + 21), .ref (b + 22), .ref (b + 23), .int (M.1 b 36), .ref (b + 24), .ref (b + 25), .ref (b + 26), .ref (b + 27), .int (M.1 b 41), .ref (b + 28), .ref (b + 29), .ref (b + 30), .ref (b + 31), .ref (b + 32), .ref (b + 33), .ref (b + 34), .ref (b + 35), .ref (b + 36), .ref (b + 37), .ref (b + 38), .ref (b + 39), .int (M.1 b 54), .int (M.1 b 55), .int (M.1 b 56), .int (M.1 b 57), .int (M.1 b 58), .int (M.1 b 59), .int (M.1 b 60), .ref (b + 40), .ref (b + 41), .int (M.1 b 63), .int (M.1 b 64)] 63 (.int v))) = xo G Y (wI M b 63 v) := xo_w xo_wI_ne (by
  rw [c_N h, wI_eq]; rfl)
set_option maxRecDepth 100000 in
theorem w_N_64 {G : xG} {Y : xY} {b : Nat} (h : xMd Y b) (M : xMem) (v : Int32) : xu (xo G Y M) b (.inr (10, List.set [.int (M.1 b 0), .int (M.1 b 1), .int (M.1 b 2), .int (M.1 b 3), .int (M.1 b 4), .int (M.1 b 5), .int (M.1 b 6), .int (M.1 b 7), .int (M.1 b 8), .int (M.1 b 9), .ref (b + 1), .ref (b + 2), .ref (b + 3), .ref (b + 4), .ref (b + 5), .ref (b + 6), .ref (b + 7), .ref (b + 8), .ref (b + 9), .ref (b + 10), .ref (b + 11), .ref (b + 12), .ref (b + 13), .ref (b + 14), .ref (b + 15), .ref (b + 16), .ref (b + 17), .int (M.1 b 27), .int (M.1 b 28), .int (M.1 b 29), .ref (b + 18), .ref (b + 19), .ref (b + 20), .ref (b + 21), .ref (b + 22), .ref (b + 23), .int (M.1 b 36), .ref (b + 24), .ref (b + 25), .ref (b + 26), .ref (b + 27), .int (M.1 b 41), .ref (b + 28), .ref (b + 29), .ref (b + 30), .ref (b + 31), .ref (b + 32), .ref (b + 33), .ref (b + 34), .ref (b + 35), .ref (b + 36), .ref (b + 37), .ref (b + 38), .ref (b + 39), .int (M.1 b 54), .int (M.1 b 55), .int (M.1 b 56), .int (M.1 b 57), .int (M.1 b 58), .int (M.1 b 59), .int (M.1 b 60), .ref (b + 40), .ref (b + 41), .int (M.1 b 63), .int (M.1 b 64)] 64 (.int v))) = xo G Y (wI M b 64 v) := xo_w xo_wI_ne (by
  rw [c_N h, wI_eq]; rfl)
