/-! PURE: every step goes with a step of the text that is left, or is left out there -/
/-- only a LIST lays an in-list STATEMENT -/
theorem new_inL {tk wd dg : Nat → Nat} {w d a b tok sc tok' sc' : Nat} {r r1 : List qI} {x1 : qI} {L L' : qL} (hn : noL r) (e : qStep tk wd dg ((w, d, a, b) :: r, tok, sc, L) = .inr (x1 :: r1, tok', sc', L')) (hL : inL x1) : w = 1 ∧ tok' = tok := by
  have no : ∀ {y : qI} {r2 : List qI}, y :: r2 = r → ¬ inL y := fun e => hn _ (e ▸ List.mem_cons_self)
  unfold qStep at e
  dsimp only at e
  split at e
  · rename_i w1
    unfold qLst at e
    split at e
    · cases e; exact ⟨w1, rfl⟩
    · injection e with e; injection e with e1 e2; exact absurd hL (no e1.symm)
  split at e
  · rw [qStat_rest] at e
    split at e
    · cases e
    split at e
    · unfold qsExc at e
      split at e
      · cases e
        have := hL.2.2
        have this : b % 2 + 2 < 2 := this
        omega
      · cases e
    generalize qNote a tok (tk tok) L = L at *
    unfold qRestS at e
    split at e
    · unfold qsVar at e
      split at e
      · cases e
      split at e
      · injection e with e; injection e with e1 e2; exact absurd hL (no e1.symm)
      split at e
      · cases e
      · cases e; exact absurd hL.1 (by simp)
    split at e
    · unfold qsFn at e
      split at e
      · cases e
      split at e
      · cases e
      cases hp : qPars tk wd ((qDecL wd (tok + 1) 3 sc L) 0).length (tok + 3) (qOpen 1 (tok + 1) sc (qDecL wd (tok + 1) 3 sc L)) with
      | inl x => rw [hp] at e; cases e
      | inr y =>
        rw [hp] at e
        unfold qsBody at e
        dsimp only at e
        split at e
        · cases e
        split at e
        · cases e
        · unfold qList at e
          cases e
          exact absurd hL.1 (by simp)
    split at e
    · unfold qsBlk qList at e
      cases e
      exact absurd hL.1 (by simp)
    split at e
    · unfold qsIf at e
      split at e
      · cases e
      · cases e; exact absurd hL.1 (by simp)
    split at e
    · unfold qsRet at e
      split at e
      · cases e
      split at e
      · injection e with e; injection e with e1 e2; exact absurd hL (no e1.symm)
      · cases e; exact absurd hL.1 (by simp)
    split at e
    · injection e with e; injection e with e1 e2; exact absurd hL (no e1.symm)
    · cases e; exact absurd hL.1 (by simp)
  split at e
  · unfold qOth at e
    split at e
    · cases e; exact absurd rfl hL.2.1
    · injection e with e; injection e with e1 e2; exact absurd hL (no e1.symm)
  split at e
  · unfold qOne at e
    split at e
    · injection e with e; injection e with e1 e2; exact absurd hL (no e1.symm)
    · cases e
  split at e
  · unfold qVal at e
    split at e
    · cases e
    split at e
    · cases e; exact absurd hL.1 (by simp)
    · cases e; exact absurd hL.1 (by simp)
  split at e
  · unfold qMore at e
    split at e
    · cases e; exact absurd hL.1 (by simp)
    · injection e with e; injection e with e1 e2; exact absurd hL (no e1.symm)
  split at e
  · unfold qPart at e
    repeat' split at e
    all_goals first
      | (cases e; done)
      | (injection e with e; injection e with e1 e2; exact absurd hL (no e1.symm))
      | (cases e; exact absurd hL.1 (by simp))
  split at e
  · unfold qRest at e
    split at e
    · cases e; exact absurd hL.1 (by simp)
    split at e
    · injection e with e; injection e with e1 e2; exact absurd hL (no e1.symm)
    · cases e
  split at e
  · injection e with e; injection e with e1 e2; exact absurd hL (no e1.symm)
  · injection e with e; injection e with e1 e2; exact absurd hL (no e1.symm)
theorem stat_adv {tk wd dg : Nat → Nat} {d a b tok sc tok' sc' : Nat} {r st' : List qI} {L L' : qL} (hk : tk tok = 18 ∨ tk tok = 20) (e : qStat tk wd dg d a b r tok sc L = .inr (st', tok', sc', L')) : tok' = tok + 1 := by
  rw [qStat_rest] at e
  split at e
  · cases e
  rw [if_neg (by omega)] at e
  unfold qRestS at e
  rw [if_neg (by omega), if_neg (by omega)] at e
  rcases hk with hk | hk
  · rw [if_pos hk] at e
    unfold qsBlk qList at e
    cases e; rfl
  · rw [if_neg (by omega), if_neg (by omega), if_neg (by omega), if_pos hk] at e
    cases e; rfl
/-- there is a first TOKEN that stays -/
theorem first_kept {t : List Nat} {dr : Nat → Bool} (h0 : xD t dr (nT t) = false) : ∀ (k tok : Nat), tok + k = nT t → ∃ q, tok ≤ q ∧ q ≤ nT t ∧ xD t dr q = false ∧ (∀ p, tok ≤ p → p < q → xD t dr p = true) ∧ nu t dr q = nu t dr tok := by
  intro k
  induction k with
  | zero =>
    intro tok e
    have : tok = nT t := e
    subst this
    exact ⟨nT t, Nat.le_refl _, Nat.le_refl _, h0, fun p h1 h2 => by omega, rfl⟩
  | succ k ih =>
    intro tok e
    cases hx : xD t dr tok with
    | false => exact ⟨tok, Nat.le_refl _, by omega, hx, fun p h1 h2 => by omega, rfl⟩
    | true =>
      obtain ⟨q, h1, h2, h3, h4, h5⟩ := ih (tok + 1) (by omega)
      refine ⟨q, by omega, h2, h3, ?_, by rw [h5, nu_drop hx]⟩
      intro p p1 p2
      by_cases c : p = tok
      · rw [c]; exact hx
      · exact h4 p (by omega) p2
section
variable {t t' : List Nat} {dr : Nat → Bool} {F : qL} {m w d a b tok sc n sc' tok1 sc1 : Nat} {r r' st1 : List qI} {L L' L1 : qL}
theorem xD_last (hM : mRl t t' dr F) : xD t dr (nT t) = false := by
  have hl := kT_last t
  refine xD_of ?_ ?_
  · cases h : dr (nT t) with
    | false => rfl
    | true => have := (hM.1 _ h).2; omega
  · intro h1 h2 h3
    have := (hM.1 _ h2).2
    rw [show nT t - 1 + 1 = nT t by omega] at this
    omega
theorem no_dr (hM : mRl t t' dr F) {p : Nat} (h : ¬ mrk F p) : dr p = false := by
  cases q : dr p with
  | false => rfl
  | true => exact absurd (hM.1 p q).1 h
/-- a PART that is a NAME: the next TOKENS stay -/
theorem part_next (hM : mRl t t' dr F) (hA : qAll t ((7, d, a, b) :: r, tok, sc, L)) (hj : adjS ((7, d, a, b) :: r)) (h : qAcc t m ((7, d, a, b) :: r, tok, sc, L) F) (hk : kT t tok = 23) : dr (tok + 1) = false ∧ (kT t (tok + 1) = 16 → dr (tok + 2) = false) := by
  obtain ⟨m0, st', tok', sc', L', _, e1, h1⟩ := h.step
  have hA1 := all_step hA e1
  have hj1 := adj_step hj e1
  have rg := (acc_reg hA e1 h1).1
  have e2 : qPart (kT t) d r tok sc L = .inr (st', tok', sc', L') := e1
  unfold qPart at e2
  rw [if_neg (by omega), if_pos hk] at e2
  split at e2
  · rename_i c
    cases e2
    obtain ⟨y, r', er, hy⟩ := hj.2.1.2.1 rfl
    subst er
    obtain ⟨w2, d2, a2, b2⟩ := y
    have hy : w2 = 6 := hy
    subst hy
    exact ⟨no_dr hM (acc_val hA1 hj1 (by decide) h1), fun h => absurd h c⟩
  split at e2
  · cases e2
    exact ⟨no_dr hM (fun hm => by have := rg (tok + 1) (by omega) (by omega) hm; omega), fun _ => no_dr hM (fun hm => by have := rg (tok + 2) (by omega) (by omega) hm; omega)⟩
  · cases e2
    exact ⟨no_dr hM (fun hm => by have := rg (tok + 1) (by omega) (by omega) hm; omega), fun _ => no_dr hM (acc_val hA1 hj1 (by decide) h1)⟩
end
