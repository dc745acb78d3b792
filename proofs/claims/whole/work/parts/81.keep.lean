/-! PURE: the grammar leaves the marks of the binder alone -/
def qFree (g : Nat) : Prop := g = 10 ∨ g = 11 ∨ g = 12 ∨ g = 13 ∨ g = 17
theorem keepf_fn {tk wd : Nat → Nat} {d tok sc g : Nat} {r st' : List qI} {L L' : qL} {tok' sc' : Nat} (hg : qFree g) (e : qsFn tk wd d r tok sc L = .inr (st', tok', sc', L')) : L' g = L g := by
  have h0 : g ≠ 0 ∧ g ≠ 1 ∧ g ≠ 5 ∧ g ≠ 14 := by unfold qFree at hg; omega
  unfold qsFn at e
  split at e
  · cases e
  split at e
  · cases e
  cases hp : qPars tk wd ((qDecL wd (tok + 1) 3 sc L) 0).length (tok + 3) (qOpen 1 (tok + 1) sc (qDecL wd (tok + 1) 3 sc L)) with
  | inl x => rw [hp] at e; cases e
  | inr y =>
    obtain ⟨p, L4⟩ := y
    have hk := q_pars_45 (g := g) h0.2.1 h0.2.2.2 hp
    rw [hp] at e
    unfold qsBody at e
    dsimp only at e
    split at e
    · cases e
    split at e
    · cases e
    · unfold qList at e
      cases e
      rw [qA_n _ _ h0.2.2.1, hk, q_open_at h0.1, q_dec_at h0.2.1 h0.2.2.2]
theorem keepf_step {tk wd dg : Nat → Nat} {g : Nat} (hg : qFree g) {st st' : List qI} {tok sc tok' sc' : Nat} {L L' : qL} (e : qStep tk wd dg (st, tok, sc, L) = .inr (st', tok', sc', L')) : L' g = L g := by
  have h0 : g ≠ 0 ∧ g ≠ 1 ∧ g ≠ 2 ∧ g ≠ 4 ∧ g ≠ 5 ∧ g ≠ 6 ∧ g ≠ 14 ∧ g ≠ 15 ∧ g ≠ 16 ∧ g ≠ 18 ∧ g ≠ 19 := by unfold qFree at hg; omega
  obtain ⟨g0, g1, g2, g4, g5, g6, g14, g15, g16, g18, g19⟩ := h0
  cases st with
  | nil => cases e; rfl
  | cons x r =>
    obtain ⟨w, d, a, b⟩ := x
    unfold qStep at e
    dsimp only at e
    split at e
    · unfold qLst at e; split at e <;> (cases e; rfl)
    split at e
    · rw [qStat_rest] at e
      split at e
      · cases e
      split at e
      · unfold qsExc at e
        split at e
        · cases e; exact qA_n _ _ g4
        · cases e
      have hn : qNote a tok (tk tok) L g = L g := q_note_at g5 g15
      rw [← hn]
      generalize qNote a tok (tk tok) L = L at *
      unfold qRestS at e
      split at e
      · unfold qsVar at e
        split at e
        · cases e
        split at e
        · cases e; exact q_dec_at g1 g14
        split at e
        · cases e
        · cases e; rw [q_let_at g1 g6, q_dec_at g1 g14]
      split at e
      · exact keepf_fn hg e
      split at e
      · unfold qsBlk qList at e
        cases e
        rw [qA_n _ _ g5, q_emp_at g18, q_open_at g0]
      split at e
      · unfold qsIf at e
        split at e
        · cases e
        · cases e; rfl
      split at e
      · unfold qsRet at e
        split at e
        · cases e
        split at e
        · cases e; rfl
        · cases e; rfl
      split at e
      · cases e; exact q_spa_at g19
      · cases e; rfl
    split at e
    · unfold qOth at e; split at e <;> (cases e; rfl)
    split at e
    · unfold qOne at e
      split at e
      · cases e; rfl
      · cases e
    split at e
    · unfold qVal at e
      split at e
      · cases e
      split at e
      · cases e; exact qA_n _ _ g2
      · cases e; rfl
    split at e
    · unfold qMore at e
      split at e
      · cases e
        split
        · exact qA_n _ _ g16
        · rfl
      · cases e; rfl
    split at e
    · unfold qPart at e
      repeat' split at e
      all_goals first
        | (cases e; done)
        | (cases e; rfl)
        | (cases e; exact qA_n _ _ g2)
    split at e
    · unfold qRest at e
      split at e
      · cases e; rfl
      split at e
      · cases e; rfl
      · cases e
    split at e
    · cases e; rfl
    · cases e; exact qM_n _ _ _ g4
theorem keepf_go {tk wd dg : Nat → Nat} {g : Nat} (hg : qFree g) : ∀ (m : Nat) (c c' : qC), qGo tk wd dg m c = .inr c' → c'.2.2.2 g = c.2.2.2 g := by
  intro m
  induction m with
  | zero => intro c c' e; rw [qGo] at e; cases e; rfl
  | succ m ih =>
    intro c c' e
    rw [qGo] at e
    cases hs : qStep tk wd dg c with
    | inl x => rw [hs] at e; cases e
    | inr c2 =>
      rw [hs] at e
      obtain ⟨st, tok, sc, L⟩ := c
      obtain ⟨st2, tok2, sc2, L2⟩ := c2
      exact (ih _ c' e).trans (keepf_step hg hs)
theorem q_free {t : List Nat} {tok sc g : Nat} {L : qL} (h : qRun (kT t) (wT' t) (dT t) = .inr ([], tok, sc, L)) (hg : qFree g) : L g = [] := by
  have := keepf_go hg 600 q0 _ h
  rw [show L g = q0.2.2.2 g from this]
  show (if g = 0 then _ else if g = 5 then _ else []) = []
  rw [if_neg (by unfold qFree at hg; omega), if_neg (by unfold qFree at hg; omega)]
