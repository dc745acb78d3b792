/-! PURE: the grammar as a machine with a stack -/
abbrev qI := Nat × Nat × Nat × Nat
abbrev qE := Nat × Nat × Nat × Nat × Nat
/-- 0 the SCOPES (around, fn, home, level, key), 1 what is DECLARED (NAME, SCOPE, kind, times, values), 2 the USES (NAME, SCOPE, writes), 4 the excuses (RULE, first, behind the last), 5 the lists (behind a return, key), 6 the lets with a value (TOKEN, thing), 10 + r the TOKENS that RULE r marks (TOKEN, more) -/
abbrev qL := Nat → List qE
abbrev qC := List qI × Nat × Nat × qL
def qg (l : List qE) (i : Nat) : qE := l.getD i (0, 0, 0, 0, 0)
def qA (f : Nat) (x : qE) (L : qL) : qL := fun g => if g = f then L g ++ [x] else L g
def qM (f i : Nat) (u : qE → qE) (L : qL) : qL := fun g => if g = f then (L g).modify i u else L g
def qFind (wd : Nat → Nat) (l : List qE) (s w : Nat) : Nat := l.findIdx (fun e => e.2.1 == s && wd e.1 == w)
def qHome (L : qL) (s : Nat) : Nat := (qg (L 0) s).2.2.1
/-- a SCOPE begins behind TOKEN p - 1 -/
def qOpen (fn p sc : Nat) (L : qL) : qL :=
  qA 0 (sc, fn, if fn = 1 then (L 0).length else qHome L sc, (qg (L 0) sc).2.2.2.1 + 1, p) L
def qDecT (wd : Nat → Nat) (tok sort sc : Nat) (L : qL) : Nat :=
  qFind wd (L 1) (if sort = 2 then qHome L sc else sc) (wd tok)
def qDecL (wd : Nat → Nat) (tok sort sc : Nat) (L : qL) : qL :=
  let t := qDecT wd tok sort sc L
  if t < (L 1).length then
    let L' := qM 1 t (fun e => (e.1, e.2.1, e.2.2.1, e.2.2.2.1 + 1, e.2.2.2.2)) L
    if sort ≠ 2 ∨ (qg (L 1) t).2.2.1 ≠ 2 then qA 14 (tok, 0, 0, 0, 0) L' else L'
  else qA 1 (tok, if sort = 2 then qHome L sc else sc, sort, 1, 0) L
def qVald (t : Nat) (L : qL) : qL := qM 1 t (fun e => (e.1, e.2.1, e.2.2.1, e.2.2.2.1, e.2.2.2.2 + 1)) L
def qJoin (k : Nat) : Bool := k == 8 || k == 9 || k == 11 || k == 12 || k == 13 || k == 14
def qNote (a tok k : Nat) (L : qL) : qL :=
  if a = 0 then L
  else
    let L' := qM 5 (a - 1) (fun e => (if k = 7 then 1 else 0, e.2)) L
    if (qg (L 5) (a - 1)).1 = 1 then qA 15 (tok, 0, 0, 0, 0) L' else L'
/-- the PARAMETERS from tok on: m more may come -/
def qPar (tk wd : Nat → Nat) (sc : Nat) : Nat → Nat → qL → Nat ⊕ (Nat × qL)
  | 0, tok, _ => .inl tok
  | m + 1, tok, L =>
    if tk tok ≠ 23 then .inl tok
    else if m ≠ 0 ∧ tk (tok + 1) = 21 then qPar tk wd sc m (tok + 2) (qDecL wd tok 4 sc L)
    else .inr (tok + 1, qDecL wd tok 4 sc L)
def qList (d a tok : Nat) (r : List qI) (at' sc : Nat) (L : qL) : qC :=
  ((1, d, a, (L 5).length) :: r, at', sc, qA 5 (0, tok + 1, 0, 0, 0) L)
def qsExc (tk dg : Nat → Nat) (d a b : Nat) (r : List qI) (tok sc : Nat) (L : qL) : Nat ⊕ qC :=
  if tk (tok + 1) = 24 ∧ dg (tok + 1) ≤ 9 then
    .inr ((2, d + 1, a, b % 2 + 2) :: (10, d, (L 4).length, 0) :: r, tok + 2, sc, qA 4 (dg (tok + 1), tok + 2, 0, 0, 0) L)
  else .inl (tok + 1)
def qLetL (k tok t : Nat) (L : qL) : qL := if k = 0 then qA 6 (tok, t, 0, 0, 0) (qVald t L) else qVald t L
def qsVar (tk wd : Nat → Nat) (d k : Nat) (r : List qI) (tok sc : Nat) (L : qL) : Nat ⊕ qC :=
  if tk (tok + 1) ≠ 23 then .inl (tok + 1)
  else if k ≠ 1 ∧ tk (tok + 2) = 20 then .inr (r, tok + 3, sc, qDecL wd (tok + 1) k sc L)
  else if tk (tok + 2) ≠ 10 then .inl (tok + 2)
  else .inr ((5, d + 1, 1, 0) :: (4, d, 20, 0) :: r, tok + 3, sc, qLetL k tok (qDecT wd (tok + 1) k sc L) (qDecL wd (tok + 1) k sc L))
def qPars (tk wd : Nat → Nat) (sc tok : Nat) (L : qL) : Nat ⊕ (Nat × qL) :=
  if tk tok = 17 then .inr (tok, L) else qPar tk wd sc 4 tok L
def qsBody (tk : Nat → Nat) (d : Nat) (r : List qI) (tok sc : Nat) : Nat ⊕ (Nat × qL) → Nat ⊕ qC
  | .inl e => .inl e
  | .inr (p, L) =>
    if tk p ≠ 17 then .inl p
    else if tk (p + 1) ≠ 18 then .inl (p + 1)
    else .inr (qList (d + 1) 19 tok ((9, d, 0, 0) :: r) (p + 2) sc L)
def qsFn (tk wd : Nat → Nat) (d : Nat) (r : List qI) (tok sc : Nat) (L : qL) : Nat ⊕ qC :=
  if tk (tok + 1) ≠ 23 then .inl (tok + 1)
  else if tk (tok + 2) ≠ 16 then .inl (tok + 2)
  else qsBody tk d r tok ((qDecL wd (tok + 1) 3 sc L) 0).length (qPars tk wd ((qDecL wd (tok + 1) 3 sc L) 0).length (tok + 3) (qOpen 1 (tok + 1) sc (qDecL wd (tok + 1) 3 sc L)))
def qEmpL (tk : Nat → Nat) (a b tok : Nat) (L : qL) : qL :=
  if tk (tok + 1) = 19 then qA 18 (tok, if a ≠ 0 ∧ b < 2 then 1 else 0, 0, 0, 0) L else L
def qsBlk (tk : Nat → Nat) (d a b : Nat) (r : List qI) (tok sc : Nat) (L : qL) : Nat ⊕ qC :=
  .inr (qList (d + 1) 19 tok ((9, d, 0, 0) :: r) (tok + 1) (L 0).length (qEmpL tk a b tok (qOpen 0 (tok + 1) sc L)))
def qsIf (tk : Nat → Nat) (d k : Nat) (r : List qI) (tok sc : Nat) (L : qL) : Nat ⊕ qC :=
  if tk (tok + 1) ≠ 16 then .inl (tok + 1)
  else .inr ((5, d, 0, 0) :: (4, d, 17, 0) :: (2, d + 1, 0, 1) :: (if k = 4 then (3, d, 0, 0) :: r else r), tok + 2, sc, L)
def qsRet (tk : Nat → Nat) (d : Nat) (r : List qI) (tok sc : Nat) (L : qL) : Nat ⊕ qC :=
  if qHome L sc = 0 then .inl tok
  else if tk (tok + 1) = 20 then .inr (r, tok + 2, sc, L)
  else .inr ((5, d, 0, 0) :: (4, d, 20, 0) :: r, tok + 1, sc, L)
def qSpaL (a b tok : Nat) (L : qL) : qL := if a ≠ 0 ∧ b < 2 then qA 19 (tok, 0, 0, 0, 0) L else L
def qStat (tk wd dg : Nat → Nat) (d a b : Nat) (r : List qI) (tok sc : Nat) (L : qL) : Nat ⊕ qC :=
  if 12 < d ∨ (b % 2 = 1 ∧ tk tok ≤ 3) then .inl tok
  else if tk tok = 22 then qsExc tk dg d a b r tok sc L
  else if tk tok ≤ 2 then qsVar tk wd d (tk tok) r tok sc (qNote a tok (tk tok) L)
  else if tk tok = 3 then qsFn tk wd d r tok sc (qNote a tok (tk tok) L)
  else if tk tok = 18 then qsBlk tk d a b r tok sc (qNote a tok (tk tok) L)
  else if tk tok = 4 ∨ tk tok = 6 then qsIf tk d (tk tok) r tok sc (qNote a tok (tk tok) L)
  else if tk tok = 7 then qsRet tk d r tok sc (qNote a tok (tk tok) L)
  else if tk tok = 20 then .inr (r, tok + 1, sc, qSpaL a b tok (qNote a tok (tk tok) L))
  else .inr ((5, d, 0, 0) :: (4, d, 20, 0) :: r, tok, sc, qNote a tok (tk tok) L)
def qVal (tk : Nat → Nat) (d a : Nat) (r : List qI) (tok sc : Nat) (L : qL) : Nat ⊕ qC :=
  if a = 1 ∧ 12 < d then .inl tok
  else if tk tok = 23 ∧ tk (tok + 1) = 10 then .inr ((5, d + 1, 1, 0) :: r, tok + 2, sc, qA 2 (tok, sc, 1, 0, 0) L)
  else .inr ((7, d, 0, 0) :: (6, d, 0, 0) :: r, tok, sc, L)
def qPart (tk : Nat → Nat) (d : Nat) (r : List qI) (tok sc : Nat) (L : qL) : Nat ⊕ qC :=
  if tk tok = 24 ∨ tk tok = 25 then .inr (r, tok + 1, sc, L)
  else if tk tok = 23 then
    if tk (tok + 1) ≠ 16 then .inr (r, tok + 1, sc, qA 2 (tok, sc, 0, 0, 0) L)
    else if tk (tok + 2) = 17 then .inr (r, tok + 3, sc, qA 2 (tok, sc, 0, 0, 0) L)
    else .inr ((5, d + 1, 1, 0) :: (8, d, 0, 0) :: r, tok + 2, sc, qA 2 (tok, sc, 0, 0, 0) L)
  else if tk tok = 15 ∨ tk tok = 12 then
    if d = 12 then .inl tok else .inr ((7, d + 1, 0, 0) :: r, tok + 1, sc, L)
  else if tk tok = 16 then
    if d = 12 then .inl tok else .inr ((5, d + 1, 0, 0) :: (4, d, 17, 0) :: r, tok + 1, sc, L)
  else .inl tok
def qLst (tk : Nat → Nat) (d a b : Nat) (r : List qI) (tok sc : Nat) (L : qL) : Nat ⊕ qC :=
  if tk tok ≠ a then .inr ((2, d, b + 1, 0) :: (1, d, a, b) :: r, tok, sc, L)
  else .inr (r, if a = 19 then tok + 1 else tok, sc, L)
def qOth (tk : Nat → Nat) (d : Nat) (r : List qI) (tok sc : Nat) (L : qL) : Nat ⊕ qC :=
  if tk tok = 5 then .inr ((2, d + 1, 0, 1) :: r, tok + 1, sc, L) else .inr (r, tok, sc, L)
def qOne (tk : Nat → Nat) (a : Nat) (r : List qI) (tok sc : Nat) (L : qL) : Nat ⊕ qC :=
  if tk tok = a then .inr (r, tok + 1, sc, L) else .inl tok
def qMore (tk : Nat → Nat) (d : Nat) (r : List qI) (tok sc : Nat) (L : qL) : Nat ⊕ qC :=
  if qJoin (tk tok) then .inr ((7, d, 0, 0) :: (6, d, 0, 0) :: r, tok + 1, sc, if tk tok = 9 then qA 16 (tok, 0, 0, 0, 0) L else L)
  else .inr (r, tok, sc, L)
def qRest (tk : Nat → Nat) (d : Nat) (r : List qI) (tok sc : Nat) (L : qL) : Nat ⊕ qC :=
  if tk tok = 21 then .inr ((5, d + 1, 1, 0) :: (8, d, 0, 0) :: r, tok + 1, sc, L)
  else if tk tok = 17 then .inr (r, tok + 1, sc, L)
  else .inl tok
def qStep (tk wd dg : Nat → Nat) : qC → Nat ⊕ qC
  | ([], tok, sc, L) => .inr ([], tok, sc, L)
  | ((w, d, a, b) :: r, tok, sc, L) =>
    if w = 1 then qLst tk d a b r tok sc L
    else if w = 2 then qStat tk wd dg d a b r tok sc L
    else if w = 3 then qOth tk d r tok sc L
    else if w = 4 then qOne tk a r tok sc L
    else if w = 5 then qVal tk d a r tok sc L
    else if w = 6 then qMore tk d r tok sc L
    else if w = 7 then qPart tk d r tok sc L
    else if w = 8 then qRest tk d r tok sc L
    else if w = 9 then .inr (r, tok, (qg (L 0) sc).1, L)
    else .inr (r, tok, sc, qM 4 a (fun e => (e.1, e.2.1, tok, e.2.2.2)) L)
/-- m steps, or until it is wrong -/
def qGo (tk wd dg : Nat → Nat) : Nat → qC → Nat ⊕ qC
  | 0, c => .inr c
  | m + 1, c =>
    match qStep tk wd dg c with
    | .inl e => .inl e
    | .inr c' => qGo tk wd dg m c'
def q0 : qC := ([(1, 1, 26, 0)], 0, 0, fun f => if f = 0 then [(0, 1, 0, 0, 0)] else if f = 5 then [(0, 0, 0, 0, 0)] else [])

theorem qGo_add (tk wd dg : Nat → Nat) (m n : Nat) (c : qC) : qGo tk wd dg (m + n) c = match qGo tk wd dg m c with | .inl e => .inl e | .inr c' => qGo tk wd dg n c' := by
  induction m generalizing c with
  | zero => simp [qGo]
  | succ m ih =>
    rw [Nat.succ_add, qGo, qGo]
    cases h : qStep tk wd dg c with
    | inl e => rfl
    | inr c' => exact ih c'
theorem qGo_nil (tk wd dg : Nat → Nat) (m tok sc : Nat) (L : qL) : qGo tk wd dg m ([], tok, sc, L) = .inr ([], tok, sc, L) := by
  induction m with
  | zero => rfl
  | succ m ih => rw [qGo]; exact ih
