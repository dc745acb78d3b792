/-! PURE: the reference's loop goes with the machine -/
def nOuts : List qI → Nat
  | [] => 0
  | x :: r => (if x.1 = 9 then 1 else 0) + nOuts r
/-- as many SCOPES to leave as the level says; a list's flag is 0 or 1 -/
def qLv (st : List qI) (sc : Nat) (L : qL) : Prop := (qg (L 0) sc).2.2.2.1 = nOuts st ∧ ∀ e, e ∈ L 5 → e.1 ≤ 1
theorem qLv.same {st st' : List qI} {sc : Nat} {L L' : qL} (h : qLv st sc L) (e0 : L' 0 = L 0) (e5 : L' 5 = L 5) (es : nOuts st' = nOuts st) : qLv st' sc L' := by
  unfold qLv; rw [e0, e5, es]; exact h
theorem lv_note {st : List qI} {sc a tok k : Nat} {L : qL} (h : qLv st sc L) : qLv st sc (qNote a tok k L) := by
  refine ⟨by rw [q_note_at (by decide) (by decide)]; exact h.1, ?_⟩
  unfold qNote
  dsimp only
  by_cases c : a = 0
  · rw [if_pos c]; exact h.2
  · rw [if_neg c]
    have key : ∀ e, e ∈ (qM 5 (a - 1) (fun e => (if k = 7 then 1 else 0, e.2)) L) 5 → e.1 ≤ 1 := by
      intro e he
      rw [qM_s] at he
      rcases q_mem_u he with he | ⟨y, hy, he⟩
      · exact h.2 e he
      · rw [he]; dsimp only; split <;> omega
    split
    · rw [qA_n _ _ (by decide)]; exact key
    · exact key
theorem lv_enter {st : List qI} {sc fn p q tok d k : Nat} {L L3 : qL} {r : List qI} (h : qLv st sc L) (hs : nOuts st = nOuts r) (e0 : L3 0 = L 0 ++ [(sc, fn, p, (qg (L 0) sc).2.2.2.1 + 1, q)]) (e5 : L3 5 = L 5) : qLv ((1, d + 1, 19, k) :: (9, d, 0, 0) :: r) (L 0).length (qA 5 (0, tok, 0, 0, 0) L3) := by
  refine ⟨?_, ?_⟩
  · rw [qA_n _ _ (by decide), e0, qg_eq, h.1, hs]
    show nOuts r + 1 = (if 1 = 9 then 1 else 0) + ((if 9 = 9 then 1 else 0) + nOuts r)
    rw [if_neg (by decide), if_pos rfl]; omega
  · intro e he
    rw [qA_s, e5] at he
    rcases List.mem_append.mp he with he | he
    · exact h.2 e he
    · rw [List.mem_singleton] at he; subst he; exact Nat.zero_le _
theorem lv_rest {t : List Nat} {d a h tok sc b' : Nat} {r : List qI} {L : qL} {st' : List qI} {tok' sc' : Nat} {L' : qL} (hl : qLv ((2, d, a, b') :: r) sc L) (e : qRestS (kT t) (wT' t) d a h r tok sc L = .inr (st', tok', sc', L')) : qLv st' sc' L' := by
  have n2 : ∀ w d a b : Nat, w ≠ 9 → ∀ s, nOuts ((w, d, a, b) :: s) = nOuts s := by
    intro w d a b hx s; show (if w = 9 then 1 else 0) + nOuts s = _; rw [if_neg hx]; omega
  have hr : nOuts ((2, d, a, b') :: r) = nOuts r := n2 _ _ _ _ (by decide) r
  unfold qRestS at e
  split at e
  · unfold qsVar at e
    split at e
    · cases e
    split at e
    · cases e; exact hl.same (q_dec_at (by decide) (by decide)) q_dec_5 hr.symm
    split at e
    · cases e
    · cases e
      refine hl.same (by rw [q_let_at (by decide) (by decide), q_dec_at (by decide) (by decide)]) (by rw [q_let_5, q_dec_5]) ?_
      rw [n2 _ _ _ _ (by decide), n2 _ _ _ _ (by decide), hr]
  split at e
  · unfold qsFn at e
    split at e
    · cases e
    split at e
    · cases e
    cases hp : qPars (kT t) (wT' t) ((qDecL (wT' t) (tok + 1) 3 sc L) 0).length (tok + 3) (qOpen 1 (tok + 1) sc (qDecL (wT' t) (tok + 1) 3 sc L)) with
    | inl x => rw [hp] at e; cases e
    | inr x =>
      obtain ⟨p, L4⟩ := x
      have h0 := q_pars_45 (g := 0) (by decide) (by decide) hp
      have h5 := q_pars_45 (g := 5) (by decide) (by decide) hp
      have ed : (qDecL (wT' t) (tok + 1) 3 sc L) 0 = L 0 := q_dec_at (by decide) (by decide)
      rw [hp] at e
      unfold qsBody at e
      dsimp only at e
      split at e
      · cases e
      split at e
      · cases e
      · cases e
        rw [ed]
        refine lv_enter (fn := 1) (p := (L 0).length) (q := tok + 1) hl hr ?_ (by rw [h5, q_open_5, q_dec_5])
        rw [h0]
        unfold qOpen
        rw [qA_s, ed, if_pos rfl]
  split at e
  · unfold qsBlk qList at e
    cases e
    refine lv_enter (fn := 0) (p := qHome L sc) (q := tok + 1) hl hr ?_ (by rw [q_emp_5, q_open_5])
    rw [q_emp_at (by decide)]
    rfl
  split at e
  · unfold qsIf at e
    split at e
    · cases e
    · cases e
      refine hl.same rfl rfl ?_
      rw [n2 _ _ _ _ (by decide), n2 _ _ _ _ (by decide), n2 _ _ _ _ (by decide), hr]
      split
      · rw [n2 _ _ _ _ (by decide)]
      · rfl
  split at e
  · unfold qsRet at e
    split at e
    · cases e
    split at e
    · cases e; exact hl.same rfl rfl hr.symm
    · cases e
      refine hl.same rfl rfl ?_
      rw [n2 _ _ _ _ (by decide), n2 _ _ _ _ (by decide), hr]
  split at e
  · cases e; exact hl.same (q_spa_at (by decide)) q_spa_5 hr.symm
  · cases e
    refine hl.same rfl rfl ?_
    rw [n2 _ _ _ _ (by decide), n2 _ _ _ _ (by decide), hr]
theorem qStat_rest {tk wd dg : Nat → Nat} {d a h tok sc : Nat} {r : List qI} {L : qL} : qStat tk wd dg d a h r tok sc L = if 12 < d ∨ (h % 2 = 1 ∧ tk tok ≤ 3) then .inl tok else if tk tok = 22 then qsExc tk dg d a h r tok sc L else qRestS tk wd d a h r tok sc (qNote a tok (tk tok) L) := rfl
theorem lv_step {t : List Nat} {x : qI} {r st' : List qI} {tok sc tok' sc' : Nat} {L L' : qL} (hs : qSc (L 0)) (hsc : sc < (L 0).length) (h : qLv (x :: r) sc L) (e : qStep (kT t) (wT' t) (dT t) (x :: r, tok, sc, L) = .inr (st', tok', sc', L')) : qLv st' sc' L' := by
  obtain ⟨w, d, a, b⟩ := x
  have n2 : ∀ w d a b : Nat, w ≠ 9 → ∀ s, nOuts ((w, d, a, b) :: s) = nOuts s := by
    intro w d a b hx s; show (if w = 9 then 1 else 0) + nOuts s = _; rw [if_neg hx]; omega
  unfold qStep at e
  dsimp only at e
  by_cases w1 : w = 1
  · rw [if_pos w1] at e
    subst w1
    unfold qLst at e
    split at e
    · cases e
      exact h.same rfl rfl (n2 _ _ _ _ (by decide) _)
    · cases e
      exact h.same rfl rfl (n2 _ _ _ _ (by decide) _).symm
  rw [if_neg w1] at e
  by_cases w2 : w = 2
  · rw [if_pos w2] at e
    subst w2
    rw [qStat_rest] at e
    split at e
    · cases e
    split at e
    · unfold qsExc at e
      split at e
      · cases e
        refine h.same rfl rfl ?_
        rw [n2 _ _ _ _ (by decide), n2 _ _ _ _ (by decide), n2 _ _ _ _ (by decide)]
      · cases e
    · exact lv_rest (lv_note h) e
  rw [if_neg w2] at e
  by_cases w3 : w = 3
  · rw [if_pos w3] at e
    subst w3
    unfold qOth at e
    split at e
    · cases e
      refine h.same rfl rfl ?_
      rw [n2 _ _ _ _ (by decide), n2 _ _ _ _ (by decide)]
    · cases e; exact h.same rfl rfl (n2 _ _ _ _ (by decide) _).symm
  rw [if_neg w3] at e
  by_cases w4 : w = 4
  · rw [if_pos w4] at e
    subst w4
    unfold qOne at e
    split at e
    · cases e; exact h.same rfl rfl (n2 _ _ _ _ (by decide) _).symm
    · cases e
  rw [if_neg w4] at e
  by_cases w5 : w = 5
  · rw [if_pos w5] at e
    subst w5
    unfold qVal at e
    split at e
    · cases e
    split at e
    · cases e
      refine h.same rfl rfl ?_
      rw [n2 _ _ _ _ (by decide), n2 _ _ _ _ (by decide)]
    · cases e
      refine h.same rfl rfl ?_
      rw [n2 _ _ _ _ (by decide), n2 _ _ _ _ (by decide), n2 _ _ _ _ (by decide)]
  rw [if_neg w5] at e
  by_cases w6 : w = 6
  · rw [if_pos w6] at e
    subst w6
    unfold qMore at e
    split at e
    · cases e
      refine h.same (by split <;> rfl) (by split <;> rfl) ?_
      rw [n2 _ _ _ _ (by decide), n2 _ _ _ _ (by decide), n2 _ _ _ _ (by decide)]
    · cases e; exact h.same rfl rfl (n2 _ _ _ _ (by decide) _).symm
  rw [if_neg w6] at e
  by_cases w7 : w = 7
  · rw [if_pos w7] at e
    subst w7
    unfold qPart at e
    repeat' split at e
    all_goals first
      | (cases e; done)
      | (cases e; exact h.same rfl rfl (n2 _ _ _ _ (by decide) _).symm)
      | (cases e; refine h.same rfl rfl ?_; rw [n2 _ _ _ _ (by decide), n2 _ _ _ _ (by decide)]; done)
      | (cases e; refine h.same rfl rfl ?_; rw [n2 _ _ _ _ (by decide), n2 _ _ _ _ (by decide), n2 _ _ _ _ (by decide)])
  rw [if_neg w7] at e
  by_cases w8 : w = 8
  · rw [if_pos w8] at e
    subst w8
    unfold qRest at e
    split at e
    · cases e
      refine h.same rfl rfl ?_
      rw [n2 _ _ _ _ (by decide), n2 _ _ _ _ (by decide), n2 _ _ _ _ (by decide)]
    split at e
    · cases e; exact h.same rfl rfl (n2 _ _ _ _ (by decide) _).symm
    · cases e
  rw [if_neg w8] at e
  by_cases w9 : w = 9
  · rw [if_pos w9] at e
    subst w9
    cases e
    have h1 : (qg (L 0) sc).2.2.2.1 = 1 + nOuts r := h.1
    have ne : sc ≠ 0 := by
      intro e; subst e; rw [hs.2.1] at h1; dsimp only at h1; omega
    have := (hs.2.2 sc (by omega) hsc).2.2.2
    exact ⟨by omega, h.2⟩
  · rw [if_neg w9] at e
    cases e
    have hn := n2 w d a b w9 r
    exact h.same rfl rfl hn.symm
