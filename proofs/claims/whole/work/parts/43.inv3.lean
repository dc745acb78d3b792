theorem ok_use {tk m : Nat → Nat} {L : qL} {tok sc wr : Nat} (h : qOk tk m sc L) (h2 : m 2 ≤ tok) (hk : tk tok = 23) (hw : wr ≤ 1) : qOk tk (fun g => if g = 2 then tok + 1 else m g) sc (qA 2 (tok, sc, wr, 0, 0) L) := by
  obtain ⟨i1, hs, i2, i3, i4, i5⟩ := h
  refine ⟨i1.A (f := 2) (x := (tok, sc, wr, 0, 0)) (by show m 2 < tok + 1; omega), hs, i2, i3, ?_, i5⟩
  intro e he
  rw [qA_s, List.mem_append, List.mem_singleton] at he
  rcases he with he | he
  · exact i4 e he
  · subst he; exact ⟨hs, hk, hw⟩
theorem ok_like {tk m : Nat → Nat} {L : qL} {tok sc : Nat} (h : qOk tk m sc L) (h2 : m 16 ≤ tok) (hk : tk tok = 9) : qOk tk (fun g => if g = 16 then tok + 1 else m g) sc (qA 16 (tok, 0, 0, 0, 0) L) := by
  obtain ⟨i1, hs, i2, i3, i4, i5, i6, i7, i8⟩ := h
  refine ⟨i1.A (f := 16) (x := (tok, 0, 0, 0, 0)) (by show m 16 < tok + 1; omega), hs, i2, i3, i4, i5, i6, ⟨i7.1, i7.2.1, ?_, i7.2.2.2⟩, i8⟩
  intro e he
  rw [qA_s, List.mem_append, List.mem_singleton] at he
  rcases he with he | he
  · exact i7.2.2.1 e he
  · subst he; exact hk
theorem ok_emp {tk m : Nat → Nat} {L : qL} {a b tok sc : Nat} (h : qOk tk m sc L) (h2 : m 18 ≤ tok) (hk : tk tok = 18) : qOk tk (fun g => if g = 18 then tok + 1 else m g) sc (qEmpL tk a b tok L) := by
  unfold qEmpL
  split
  · rename_i h19
    obtain ⟨i1, hs, i2, i3, i4, i5, i6, i7, i8⟩ := h
    refine ⟨i1.A (f := 18) (x := (tok, if a ≠ 0 ∧ b < 2 then 1 else 0, 0, 0, 0)) (by show m 18 < tok + 1; omega), hs, i2, i3, i4, i5, i6, ⟨i7.1, i7.2.1, i7.2.2.1, ?_, i7.2.2.2.2⟩, i8⟩
    intro e he
    rw [qA_s, List.mem_append, List.mem_singleton] at he
    rcases he with he | he
    · exact i7.2.2.2.1 e he
    · subst he; exact ⟨hk, h19, by dsimp only; split <;> omega⟩
  · refine h.mono ?_
    intro g; show m g ≤ if g = 18 then tok + 1 else m g
    split
    · subst_vars; omega
    · exact Nat.le_refl _
theorem ok_spa {tk m : Nat → Nat} {L : qL} {a b tok sc : Nat} (h : qOk tk m sc L) (h2 : m 19 ≤ tok) (hk : tk tok = 20) : qOk tk (fun g => if g = 19 then tok + 1 else m g) sc (qSpaL a b tok L) := by
  unfold qSpaL
  split
  · obtain ⟨i1, hs, i2, i3, i4, i5, i6, i7, i8⟩ := h
    refine ⟨i1.A (f := 19) (x := (tok, 0, 0, 0, 0)) (by show m 19 < tok + 1; omega), hs, i2, i3, i4, i5, i6, ⟨i7.1, i7.2.1, i7.2.2.1, i7.2.2.2.1, ?_⟩, i8⟩
    intro e he
    rw [qA_s, List.mem_append, List.mem_singleton] at he
    rcases he with he | he
    · exact i7.2.2.2.2 e he
    · subst he; exact hk
  · refine h.mono ?_
    intro g; show m g ≤ if g = 19 then tok + 1 else m g
    split
    · subst_vars; omega
    · exact Nat.le_refl _
theorem ok_exc {tk m : Nat → Nat} {L : qL} {n tok sc : Nat} (h : qOk tk m sc L) (h2 : m 4 ≤ tok) (hn : n ≤ 9) : qOk tk (fun g => if g = 4 then tok + 2 else m g) sc (qA 4 (n, tok + 2, 0, 0, 0) L) := by
  obtain ⟨i1, hs, i2, i3, i4, i5, i6, i7, i8⟩ := h
  refine ⟨i1.A (f := 4) (x := (n, tok + 2, 0, 0, 0)) (by show m 4 < tok + 2; omega), hs, i2, i3, i4, i5, i6, i7, ?_⟩
  intro e he
  rw [qA_s, List.mem_append, List.mem_singleton] at he
  rcases he with he | he
  · exact i8 e he
  · subst he; exact ⟨hn, by show 2 ≤ tok + 2; omega⟩
theorem q_mem_u {u : qE → qE} {l : List qE} {i : Nat} {x : qE} (h : x ∈ l.modify i u) : x ∈ l ∨ ∃ y, y ∈ l ∧ x = u y := by
  induction l generalizing i with
  | nil => cases i <;> simp at h
  | cons y l ih =>
    cases i with
    | zero =>
      rw [List.modify_zero_cons] at h
      rcases List.mem_cons.mp h with h | h
      · exact .inr ⟨y, List.mem_cons_self .., h⟩
      · exact .inl (List.mem_cons_of_mem _ h)
    | succ i =>
      rw [List.modify_succ_cons] at h
      rcases List.mem_cons.mp h with h | h
      · exact .inl (by rw [h]; exact List.mem_cons_self ..)
      · rcases ih h with h | ⟨z, h1, h2⟩
        · exact .inl (List.mem_cons_of_mem _ h)
        · exact .inr ⟨z, List.mem_cons_of_mem _ h1, h2⟩
theorem ok_close {tk m : Nat → Nat} {L : qL} {a tok sc : Nat} (h : qOk tk m sc L) : qOk tk m sc (qM 4 a (fun e => (e.1, e.2.1, tok, e.2.2.2)) L) := by
  obtain ⟨i1, hs, i2, i3, i4, i5, i6, i7, i8⟩ := h
  refine ⟨i1.M (fun e => rfl), hs, i2, i3, i4, i5, i6, i7, ?_⟩
  intro e he
  rw [qM_s] at he
  rcases q_mem_u he with he | ⟨y, hy, he⟩
  · exact i8 e he
  · subst he; exact i8 y hy
theorem ok_list {tk m : Nat → Nat} {L : qL} {tok sc : Nat} (h : qOk tk m sc L) (h2 : m 5 ≤ tok) : qOk tk (fun g => if g = 5 then tok + 1 else m g) sc (qA 5 (0, tok + 1, 0, 0, 0) L) := by
  obtain ⟨i1, i2⟩ := h
  exact ⟨i1.A (f := 5) (x := (0, tok + 1, 0, 0, 0)) (by show m 5 < tok + 1; omega), i2⟩
theorem ok_out {tk m : Nat → Nat} {L : qL} {sc : Nat} (h : qOk tk m sc L) : qOk tk m (qg (L 0) sc).1 L := by
  obtain ⟨i1, hs, i2, i3⟩ := h
  refine ⟨i1, ?_, i2, i3⟩
  by_cases e : sc = 0
  · subst e; rw [i2.2.1]; exact i2.1
  · have := (i2.2.2 sc (by omega) hs).1; omega
theorem ok_par {tk wd : Nat → Nat} {sc : Nat} : ∀ (n : Nat) {m : Nat → Nat} {tok : Nat} {L : qL} {p : Nat} {L' : qL}, qOk tk m sc L → m 1 ≤ tok → m 14 ≤ tok → qPar tk wd sc n tok L = .inr (p, L') → tok < p ∧ qOk tk (fun g => if g = 1 ∨ g = 14 then p else m g) sc L' := by
  intro n
  induction n with
  | zero => intro m tok L p L' _ _ _ h; simp [qPar] at h
  | succ n ih =>
    intro m tok L p L' hI h1 h2 h
    rw [qPar] at h
    by_cases e : tk tok ≠ 23
    · rw [if_pos e] at h; cases h
    · rw [if_neg e] at h
      have w := (ok_dec (wd := wd) (sort := 4) (sc := sc) hI h1 h2 (by omega) (by omega)).1
      by_cases e2 : n ≠ 0 ∧ tk (tok + 1) = 21
      · rw [if_pos e2] at h
        obtain ⟨i1, i2⟩ := ih w (by simp) (by simp) h
        refine ⟨by omega, i2.mono ?_⟩
        intro g; show (if g = 1 ∨ g = 14 then p else if g = 1 ∨ g = 14 then tok + 1 else m g) ≤ if g = 1 ∨ g = 14 then p else m g; repeat' split
        all_goals omega
      · rw [if_neg e2] at h
        cases h
        exact ⟨by omega, w⟩
def qPend : List qI → Nat
  | [] => 0
  | x :: _ => if x.1 = 5 ∨ x.1 = 7 then 1 else 0
def qBd (st : List qI) (tok : Nat) : Nat → Nat := fun g => if g = 15 then tok + qPend st else tok
theorem q_pend_le (st : List qI) : qPend st ≤ 1 := by
  cases st with
  | nil => exact Nat.zero_le _
  | cons x r => show (if x.1 = 5 ∨ x.1 = 7 then 1 else 0) ≤ 1; split <;> omega
theorem ok_bd {tk m : Nat → Nat} {st : List qI} {tok sc : Nat} {L : qL} (h : qOk tk m sc L) (hm : ∀ f, m f ≤ tok) : qOk tk (qBd st tok) sc L := by
  refine h.mono ?_
  intro f; unfold qBd; have := hm f; split <;> omega
/-- what a step leads to is well -/
def qGood (tk : Nat → Nat) (tok : Nat) (c : Nat ⊕ qC) : Prop := ∀ st' tok' sc' L', c = .inr (st', tok', sc', L') → tok ≤ tok' ∧ qOk tk (qBd st' tok') sc' L'
theorem qGood.inl {tk : Nat → Nat} {tok e : Nat} : qGood tk tok (.inl e) := by intro _ _ _ _ h; cases h
theorem qGood.inr {tk : Nat → Nat} {tok tok' sc' : Nat} {st' : List qI} {L' : qL} (h1 : tok ≤ tok') (h2 : qOk tk (qBd st' tok') sc' L') : qGood tk tok (.inr (st', tok', sc', L')) := by
  intro _ _ _ _ h; cases h; exact ⟨h1, h2⟩
theorem qGood.of {tk m : Nat → Nat} {tok tok' sc' : Nat} {st' : List qI} {L' : qL} (h1 : tok ≤ tok') (h2 : qOk tk m sc' L') (hm : ∀ f, m f ≤ tok') : qGood tk tok (.inr (st', tok', sc', L')) :=
  .inr h1 (ok_bd h2 hm)
theorem good_exc {tk dg : Nat → Nat} {d a b tok sc : Nat} {r : List qI} {L : qL} (h : qOk tk (fun _ => tok) sc L) : qGood tk tok (qsExc tk dg d a b r tok sc L) := by
  unfold qsExc
  split
  · refine .of (by omega) (ok_exc h (Nat.le_refl _) (by omega)) ?_
    intro f; (try dsimp only); split <;> omega
  · exact .inl
theorem good_var {tk wd : Nat → Nat} {d tok sc : Nat} {r : List qI} {L : qL} (h : qOk tk (fun g => if g = 15 then tok + 1 else tok) sc L) (hk : tk tok ≤ 2) : qGood tk tok (qsVar tk wd d (tk tok) r tok sc L) := by
  unfold qsVar
  split
  · exact .inl
  rename_i hn
  have w := ok_dec (wd := wd) (tok := tok + 1) (sort := tk tok) (sc := sc) h (by simp) (by simp) (by omega) (by omega)
  split
  · refine .of (by omega) w.1 ?_
    intro f; (try dsimp only); repeat' split
    all_goals omega
  split
  · exact .inl
  · refine .of (by omega) (ok_let w.1 w.2 (by simp) rfl) ?_
    intro f; (try dsimp only); repeat' split
    all_goals omega
theorem good_pars {tk wd m : Nat → Nat} {sc tok : Nat} {L : qL} {p : Nat} {L' : qL} (h : qOk tk m sc L) (h1 : m 1 ≤ tok) (h2 : m 14 ≤ tok) (e : qPars tk wd sc tok L = .inr (p, L')) : tok ≤ p ∧ qOk tk (fun g => if g = 1 ∨ g = 14 then p else m g) sc L' := by
  unfold qPars at e
  split at e
  · cases e
    refine ⟨Nat.le_refl _, h.mono ?_⟩
    intro g; (try dsimp only)
    split
    · rename_i hg; rcases hg with hg | hg <;> subst hg <;> assumption
    · exact Nat.le_refl _
  · obtain ⟨e1, e2⟩ := ok_par 4 h h1 h2 e
    exact ⟨by omega, e2⟩
theorem good_fn {tk wd : Nat → Nat} {d tok sc : Nat} {r : List qI} {L : qL} (h : qOk tk (fun g => if g = 15 then tok + 1 else tok) sc L) : qGood tk tok (qsFn tk wd d r tok sc L) := by
  unfold qsFn
  split
  · exact .inl
  rename_i hn
  have w := (ok_dec (wd := wd) (tok := tok + 1) (sort := 3) (sc := sc) h (by simp) (by simp) (by omega) (by omega)).1
  split
  · exact .inl
  have o := ok_open (fn := 1) (p := tok + 1) w (by simp) (by omega)
  cases e : qPars tk wd ((qDecL wd (tok + 1) 3 sc L) 0).length (tok + 3) (qOpen 1 (tok + 1) sc (qDecL wd (tok + 1) 3 sc L)) with
  | inl e => exact .inl
  | inr x =>
    obtain ⟨p, L4⟩ := x
    obtain ⟨e1, e2⟩ := good_pars o (by simp) (by simp) e
    unfold qsBody
    dsimp only
    split
    · exact .inl
    split
    · exact .inl
    · refine .of (by omega) (ok_list (tok := tok) e2 (by simp)) ?_
      intro f; (try dsimp only); repeat' split
      all_goals omega
theorem good_blk {tk : Nat → Nat} {d a b tok sc : Nat} {r : List qI} {L : qL} (h : qOk tk (fun g => if g = 15 then tok + 1 else tok) sc L) (hk : tk tok = 18) : qGood tk tok (qsBlk tk d a b r tok sc L) := by
  unfold qsBlk qList
  have o := ok_open (fn := 0) (p := tok + 1) h (by simp) (by omega)
  have o2 := ok_emp (a := a) (b := b) (tok := tok) o (by simp) hk
  refine .of (by omega) (ok_list (tok := tok) o2 (by simp)) ?_
  intro f; (try dsimp only); repeat' split
  all_goals omega
theorem good_if {tk : Nat → Nat} {d k tok sc : Nat} {r : List qI} {L : qL} (h : qOk tk (fun g => if g = 15 then tok + 1 else tok) sc L) : qGood tk tok (qsIf tk d k r tok sc L) := by
  unfold qsIf
  split
  · exact .inl
  · refine .of (by omega) h ?_
    intro f; (try dsimp only); split <;> omega
theorem good_ret {tk : Nat → Nat} {d tok sc : Nat} {r : List qI} {L : qL} (h : qOk tk (fun g => if g = 15 then tok + 1 else tok) sc L) : qGood tk tok (qsRet tk d r tok sc L) := by
  unfold qsRet
  split
  · exact .inl
  split
  · refine .of (by omega) h ?_
    intro f; (try dsimp only); split <;> omega
  · refine .of (by omega) h ?_
    intro f; (try dsimp only); split <;> omega
theorem good_stat {tk wd dg : Nat → Nat} {d a b tok sc : Nat} {r : List qI} {L : qL} (h : qOk tk (fun _ => tok) sc L) : qGood tk tok (qStat tk wd dg d a b r tok sc L) := by
  have n := ok_note (a := a) (k := tk tok) h (Nat.le_refl tok)
  unfold qStat
  by_cases c1 : 12 < d ∨ (b % 2 = 1 ∧ tk tok ≤ 3)
  · rw [if_pos c1]; exact .inl
  rw [if_neg c1]
  by_cases c2 : tk tok = 22
  · rw [if_pos c2]; exact good_exc h
  rw [if_neg c2]
  by_cases c3 : tk tok ≤ 2
  · rw [if_pos c3]; exact good_var n c3
  rw [if_neg c3]
  by_cases c4 : tk tok = 3
  · rw [if_pos c4]; exact good_fn n
  rw [if_neg c4]
  by_cases c5 : tk tok = 18
  · rw [if_pos c5]; exact good_blk n c5
  rw [if_neg c5]
  by_cases c6 : tk tok = 4 ∨ tk tok = 6
  · rw [if_pos c6]; exact good_if n
  rw [if_neg c6]
  by_cases c7 : tk tok = 7
  · rw [if_pos c7]; exact good_ret n
  rw [if_neg c7]
  by_cases c8 : tk tok = 20
  · rw [if_pos c8]
    refine .of (by omega) (ok_spa (tok := tok) n (by simp) c8) ?_
    intro f; (try dsimp only); repeat' split
    all_goals omega
  · rw [if_neg c8]
    refine .inr (Nat.le_refl _) (n.mono ?_)
    intro f; unfold qBd qPend; dsimp only; split <;> simp
theorem good_val {tk : Nat → Nat} {d a tok sc : Nat} {r : List qI} {L : qL} (h : qOk tk (fun g => if g = 15 then tok + 1 else tok) sc L) : qGood tk tok (qVal tk d a r tok sc L) := by
  unfold qVal
  split
  · exact .inl
  split
  · refine .of (by omega) (ok_use (tok := tok) (wr := 1) h (by simp) (by omega) (by omega)) ?_
    intro f; (try dsimp only); repeat' split
    all_goals omega
  · refine .inr (Nat.le_refl _) (h.mono ?_)
    intro f; unfold qBd qPend; dsimp only; split <;> simp
theorem good_part {tk : Nat → Nat} {d tok sc : Nat} {r : List qI} {L : qL} (h : qOk tk (fun g => if g = 15 then tok + 1 else tok) sc L) : qGood tk tok (qPart tk d r tok sc L) := by
  unfold qPart
  split
  · refine .of (by omega) h ?_
    intro f; (try dsimp only); split <;> omega
  split
  · rename_i h23
    have u := ok_use (tok := tok) (wr := 0) h (by simp) h23 (by omega)
    repeat' split
    all_goals
      refine .of (by omega) u ?_
      intro f; (try dsimp only); repeat' split
      all_goals omega
  repeat' split
  all_goals first
    | exact .inl
    | (refine .of (by omega) h ?_
       intro f; (try dsimp only); split <;> omega)
theorem good_step {tk wd dg : Nat → Nat} {st : List qI} {tok sc : Nat} {L : qL} (h : qOk tk (qBd st tok) sc L) : qGood tk tok (qStep tk wd dg (st, tok, sc, L)) := by
  cases st with
  | nil => exact .inr (Nat.le_refl _) h
  | cons x r =>
    obtain ⟨w, d, a, b⟩ := x
    have h57 : qOk tk (fun g => if g = 15 then tok + 1 else tok) sc L := h.mono (by
      intro f; unfold qBd; have := q_pend_le ((w, d, a, b) :: r); (try dsimp only); split <;> omega)
    have hn : ¬ (w = 5 ∨ w = 7) → qOk tk (fun _ => tok) sc L := by
      intro e; refine h.mono ?_
      intro f; unfold qBd qPend; dsimp only; rw [if_neg e]; split <;> omega
    unfold qStep
    dsimp only
    by_cases c1 : w = 1
    · rw [if_pos c1]; unfold qLst
      have := hn (by omega)
      split
      · exact .of (Nat.le_refl _) this (fun _ => Nat.le_refl _)
      · refine .of (by split <;> omega) this ?_
        intro f; split <;> omega
    rw [if_neg c1]
    by_cases c2 : w = 2
    · rw [if_pos c2]; exact good_stat (hn (by omega))
    rw [if_neg c2]
    by_cases c3 : w = 3
    · rw [if_pos c3]; unfold qOth
      have := hn (by omega)
      split
      · exact .of (by omega) this (fun _ => by omega)
      · exact .of (by omega) this (fun _ => by omega)
    rw [if_neg c3]
    by_cases c4 : w = 4
    · rw [if_pos c4]; unfold qOne
      have := hn (by omega)
      split
      · exact .of (by omega) this (fun _ => by omega)
      · exact .inl
    rw [if_neg c4]
    by_cases c5 : w = 5
    · rw [if_pos c5]; exact good_val h57
    rw [if_neg c5]
    by_cases c6 : w = 6
    · rw [if_pos c6]; unfold qMore
      have := hn (by omega)
      split
      · split
        · refine .of (by omega) (ok_like (tok := tok) this (Nat.le_refl _) (by assumption)) ?_
          intro f; (try dsimp only); split <;> omega
        · exact .of (by omega) this (fun _ => by omega)
      · exact .of (by omega) this (fun _ => by omega)
    rw [if_neg c6]
    by_cases c7 : w = 7
    · rw [if_pos c7]; exact good_part h57
    rw [if_neg c7]
    have := hn (by omega)
    by_cases c8 : w = 8
    · rw [if_pos c8]; unfold qRest
      repeat' split
      all_goals first
        | exact .inl
        | exact .of (by omega) this (fun _ => by omega)
    rw [if_neg c8]
    by_cases c9 : w = 9
    · rw [if_pos c9]
      exact .of (by omega) (ok_out this) (fun _ => by omega)
    rw [if_neg c9]
    exact .of (by omega) (ok_close this) (fun _ => by omega)
