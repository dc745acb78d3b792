/-! PURE: a run that ends well: which TOKENS are taken how -/
/-- in m steps the run ends with the lists F -/
def qAcc (t : List Nat) (m : Nat) (c : qC) (F : qL) : Prop := ∃ tf sf, qGo (kT t) (wT' t) (dT t) m c = .inr ([], tf, sf, F)
theorem qAcc.step {t : List Nat} {m tok sc : Nat} {x : qI} {r : List qI} {L F : qL} (h : qAcc t m (x :: r, tok, sc, L) F) : ∃ m0 st' tok' sc' L', m = m0 + 1 ∧ qStep (kT t) (wT' t) (dT t) (x :: r, tok, sc, L) = .inr (st', tok', sc', L') ∧ qAcc t m0 (st', tok', sc', L') F := by
  obtain ⟨tf, sf, h⟩ := h
  cases m with
  | zero => rw [qGo] at h; cases h
  | succ m =>
    rw [qGo] at h
    cases hs : qStep (kT t) (wT' t) (dT t) (x :: r, tok, sc, L) with
    | inl e => rw [hs] at h; cases h
    | inr c1 =>
      rw [hs] at h
      obtain ⟨st', tok', sc', L'⟩ := c1
      exact ⟨m, st', tok', sc', L', rfl, rfl, tf, sf, h⟩
theorem qAcc.nil {t : List Nat} {m tok sc : Nat} {L F : qL} (h : qAcc t m ([], tok, sc, L) F) : F = L := by
  obtain ⟨tf, sf, h⟩ := h
  rw [qGo_nil] at h
  cases h; rfl
theorem all_le {t : List Nat} {st st' : List qI} {tok sc tok' sc' : Nat} {L L' : qL} (h : qAll t (st, tok, sc, L)) (e : qStep (kT t) (wT' t) (dT t) (st, tok, sc, L) = .inr (st', tok', sc', L')) : tok ≤ tok' :=
  (good_step (wd := wT' t) (dg := dT t) h.1.2.1 _ _ _ _ e).1
theorem mrk_lt {t : List Nat} {st : List qI} {tok sc p : Nat} {L : qL} (h : qAll t (st, tok, sc, L)) (hp : mrk L p) : p < tok := by
  have iv := h.1.2.1.1
  rcases hp with ⟨e, h1, h2⟩ | ⟨e, h1, h2, _⟩
  · have := (iv 19).2 e h1
    have this : e.1 + 1 ≤ tok := this
    omega
  · have := (iv 18).2 e h1
    have this : e.1 + 1 ≤ tok := this
    omega
theorem mrk6_lt {t : List Nat} {st : List qI} {tok sc p : Nat} {L : qL} (h : qAll t (st, tok, sc, L)) (hp : mrk6 L p) : p < tok := by
  have iv := h.1.2.1.1
  obtain ⟨e, h1, h2⟩ := hp
  have := (iv 6).2 e h1
  have this : e.1 + 1 ≤ tok := this
  omega
/-- marks of TOKENS that were taken before are there already -/
theorem acc_mrk {t : List Nat} {F : qL} : ∀ (m : Nat) (st : List qI) (tok sc : Nat) (L : qL), qAll t (st, tok, sc, L) → qAcc t m (st, tok, sc, L) F → (∀ p, p < tok → mrk F p → mrk L p) ∧ (∀ p, p < tok → mrk6 F p → mrk6 L p) := by
  intro m
  induction m with
  | zero =>
    intro st tok sc L _ h
    obtain ⟨tf, sf, h⟩ := h
    rw [qGo] at h
    cases h
    exact ⟨fun _ _ h => h, fun _ _ h => h⟩
  | succ m ih =>
    intro st tok sc L hA h
    cases st with
    | nil => rw [h.nil]; exact ⟨fun _ _ h => h, fun _ _ h => h⟩
    | cons x r =>
      obtain ⟨m0, st', tok', sc', L', e0, e1, h1⟩ := h.step
      have : m0 = m := by omega
      subst this
      have le := all_le hA e1
      have i := ih st' tok' sc' L' (all_step hA e1) h1
      obtain ⟨w, d, a, b⟩ := x
      have ef := eff_step e1
      refine ⟨fun p hp hm => ?_, fun p hp hm => ?_⟩
      · rcases ef.1 p (i.1 p (by omega) hm) with h | h
        · exact h
        · omega
      · rcases ef.2 p (i.2 p (by omega) hm) with h | h
        · exact h
        · omega
/-- a mark at a TOKEN that this step takes -/
theorem acc_reg {t : List Nat} {F : qL} {m w d a b tok sc tok' sc' : Nat} {r st' : List qI} {L L' : qL} (hA : qAll t ((w, d, a, b) :: r, tok, sc, L)) (e : qStep (kT t) (wT' t) (dT t) ((w, d, a, b) :: r, tok, sc, L) = .inr (st', tok', sc', L')) (h : qAcc t m (st', tok', sc', L') F) : (∀ p, tok ≤ p → p < tok' → mrk F p → p = tok ∧ w = 2 ∧ a ≠ 0 ∧ b < 2) ∧ (∀ p, tok ≤ p → p < tok' → mrk6 F p → p = tok ∧ w = 2 ∧ kT t tok = 0 ∧ kT t (tok + 2) = 10) := by
  have i := acc_mrk m st' tok' sc' L' (all_step hA e) h
  have ef := eff_step e
  refine ⟨fun p h1 h2 hm => ?_, fun p h1 h2 hm => ?_⟩
  · rcases ef.1 p (i.1 p h2 hm) with h | h
    · have := mrk_lt hA h; omega
    · exact h
  · rcases ef.2 p (i.2 p h2 hm) with h | h
    · have := mrk6_lt hA h; omega
    · exact h
/-- what a PART, ONE or REST does: it takes a TOKEN -/
theorem takes_478 {tk wd dg : Nat → Nat} {w d a b tok sc tok' sc' : Nat} {r st' : List qI} {L L' : qL} (hw : w = 4 ∨ w = 7 ∨ w = 8) (e : qStep tk wd dg ((w, d, a, b) :: r, tok, sc, L) = .inr (st', tok', sc', L')) : tok < tok' := by
  unfold qStep at e
  dsimp only at e
  rw [if_neg (by omega), if_neg (by omega), if_neg (by omega)] at e
  split at e
  · unfold qOne at e
    split at e
    · cases e; omega
    · cases e
  rw [if_neg (by omega), if_neg (by omega)] at e
  split at e
  · unfold qPart at e
    repeat' split at e
    all_goals first
      | (cases e; done)
      | (cases e; omega)
  split at e
  · unfold qRest at e
    split at e
    · cases e; omega
    split at e
    · cases e; omega
    · cases e
  · omega
theorem acc_val {t : List Nat} {F : qL} {m w d a b tok sc : Nat} {r : List qI} {L : qL} (hA : qAll t ((w, d, a, b) :: r, tok, sc, L)) (hj : adjS ((w, d, a, b) :: r)) (hw : 4 ≤ w ∧ w ≤ 8) (h : qAcc t m ((w, d, a, b) :: r, tok, sc, L) F) : ¬ mrk F tok := by
  have g478 : ∀ (m w d a b sc : Nat) (r : List qI) (L : qL), qAll t ((w, d, a, b) :: r, tok, sc, L) → (w = 4 ∨ w = 7 ∨ w = 8) → qAcc t m ((w, d, a, b) :: r, tok, sc, L) F → ¬ mrk F tok := by
    intro m w d a b sc r L hA hw h hm
    obtain ⟨m0, st', tok', sc', L', _, e1, h1⟩ := h.step
    have := (acc_reg hA e1 h1).1 tok (Nat.le_refl _) (takes_478 hw e1) hm
    omega
  by_cases w478 : w = 4 ∨ w = 7 ∨ w = 8
  · exact g478 m w d a b sc r L hA w478 h
  · obtain ⟨m0, st', tok', sc', L', _, e1, h1⟩ := h.step
    have hA1 := all_step hA e1
    have rg := (acc_reg hA e1 h1).1 tok (Nat.le_refl _)
    intro hm
    have nt : ¬ tok < tok' := fun hl => by have := rg hl hm; omega
    have e2 := e1
    unfold qStep at e2
    dsimp only at e2
    rw [if_neg (by omega), if_neg (by omega), if_neg (by omega), if_neg (by omega)] at e2
    split at e2
    · unfold qVal at e2
      split at e2
      · cases e2
      split at e2
      · cases e2; omega
      · cases e2
        exact g478 m0 7 d 0 0 sc _ _ hA1 (.inr (.inl rfl)) h1 hm
    rw [if_pos (by omega)] at e2
    unfold qMore at e2
    split at e2
    · cases e2; omega
    · cases e2
      obtain ⟨y, r', er, hy⟩ := hj.2.1.1 (by show w = 5 ∨ w = 6; omega)
      subst er
      obtain ⟨w2, d2, a2, b2⟩ := y
      exact g478 m0 w2 d2 a2 b2 sc r' _ hA1 (by have hy : w2 = 4 ∨ w2 = 8 := hy; omega) h1 hm
/-- ELSE begins no STATEMENT -/
theorem acc_no5 {t : List Nat} {F : qL} {m d a b tok sc : Nat} {r : List qI} {L : qL} (ha : a = 19 ∨ a = 26) (hk : kT t tok = 5) (h : qAcc t m ((1, d, a, b) :: r, tok, sc, L) F) : False := by
  obtain ⟨m0, st', tok', sc', L', _, e1, h1⟩ := h.step
  have e1' : qLst (kT t) d a b r tok sc L = .inr (st', tok', sc', L') := e1
  unfold qLst at e1'
  rw [if_pos (by omega)] at e1'
  cases e1'
  obtain ⟨m1, st', tok', sc', L', _, e2, h2⟩ := h1.step
  have e2' : qStat (kT t) (wT' t) (dT t) d (b + 1) 0 ((1, d, a, b) :: r) tok sc L = .inr (st', tok', sc', L') := e2
  rw [qStat_rest] at e2'
  split at e2'
  · cases e2'
  rw [if_neg (by omega)] at e2'
  unfold qRestS at e2'
  rw [if_neg (by omega), if_neg (by omega), if_neg (by omega), if_neg (by omega), if_neg (by omega), if_neg (by omega)] at e2'
  cases e2'
  obtain ⟨m2, st', tok', sc', L', _, e3, h3⟩ := h2.step
  have e3' : qVal (kT t) d 0 ((4, d, 20, 0) :: (1, d, a, b) :: r) tok sc (qNote (b + 1) tok (kT t tok) L) = .inr (st', tok', sc', L') := e3
  unfold qVal at e3'
  rw [if_neg (by omega), if_neg (by omega)] at e3'
  cases e3'
  obtain ⟨m3, st', tok', sc', L', _, e4, h4⟩ := h3.step
  have e4' : qPart (kT t) d ((6, d, 0, 0) :: (4, d, 20, 0) :: (1, d, a, b) :: r) tok sc (qNote (b + 1) tok (kT t tok) L) = .inr (st', tok', sc', L') := e4
  unfold qPart at e4'
  rw [if_neg (by omega), if_neg (by omega), if_neg (by omega), if_neg (by omega)] at e4'
  cases e4'
/-- TOKEN p goes: it begins what goes, or is the end of a BLOCK that goes -/
def xD (t : List Nat) (dr : Nat → Bool) (p : Nat) : Bool := dr p || (decide (1 ≤ p) && (dr (p - 1) && decide (kT t (p - 1) = 18)))
theorem xD_dr {t : List Nat} {dr : Nat → Bool} {p : Nat} (h : xD t dr p = false) : dr p = false := by
  unfold xD at h; rw [Bool.or_eq_false_iff] at h; exact h.1
theorem xD_of {t : List Nat} {dr : Nat → Bool} {p : Nat} (h1 : dr p = false) (h2 : 1 ≤ p → dr (p - 1) = true → kT t (p - 1) ≠ 18) : xD t dr p = false := by
  unfold xD
  rw [h1, Bool.false_or]
  by_cases c : 1 ≤ p
  · cases q : dr (p - 1) with
    | false => simp
    | true => have := h2 c q; simp [this]
  · simp [c]
/-- an in-list STATEMENT that goes is taken: then its LIST stands at the next TOKEN -/
theorem acc_goes {t : List Nat} {F : qL} {m d a b d1 a1 b1 tok sc : Nat} {r : List qI} {L : qL} (hA : qAll t ((2, d, a, b) :: (1, d1, a1, b1) :: r, tok, sc, L)) (hL : a ≠ 0 ∧ b < 2) (hk : kT t tok = 20 ∨ (kT t tok = 18 ∧ kT t (tok + 1) = 19)) (h : qAcc t m ((2, d, a, b) :: (1, d1, a1, b1) :: r, tok, sc, L) F) : ∃ m0 L', m0 < m ∧ qAcc t m0 ((1, d1, a1, b1) :: r, tok + (if kT t tok = 20 then 1 else 2), sc, L') F ∧ qAll t ((1, d1, a1, b1) :: r, tok + (if kT t tok = 20 then 1 else 2), sc, L') ∧ (∀ s, s < (L 0).length → qg (L' 0) s = qg (L 0) s) := by
  obtain ⟨m0, st', tok', sc', L', em, e1, h1⟩ := h.step
  have hA1 := all_step hA e1
  have e1' : qStat (kT t) (wT' t) (dT t) d a b ((1, d1, a1, b1) :: r) tok sc L = .inr (st', tok', sc', L') := e1
  rw [qStat_rest] at e1'
  split at e1'
  · cases e1'
  rw [if_neg (by omega)] at e1'
  unfold qRestS at e1'
  rw [if_neg (by omega), if_neg (by omega)] at e1'
  have hs : sc < (L 0).length := hA.1.2.1.2.1
  rcases hk with hk | hk
  · rw [if_neg (by omega), if_neg (by omega), if_neg (by omega), if_pos hk] at e1'
    cases e1'
    refine ⟨m0, _, by omega, by rw [if_pos hk]; exact h1, by rw [if_pos hk]; exact hA1, ?_⟩
    intro s _
    rw [q_spa_at (by decide), q_note_at (by decide) (by decide)]
  · rw [if_pos hk.1] at e1'
    unfold qsBlk qList at e1'
    cases e1'
    obtain ⟨m1, st', tok', sc', L', em1, e2, h2⟩ := h1.step
    have hA2 := all_step hA1 e2
    have e2' := e2
    unfold qStep at e2'
    dsimp only at e2'
    rw [if_pos rfl] at e2'
    unfold qLst at e2'
    rw [if_neg (show ¬ kT t (tok + 1) ≠ 19 by omega), if_pos rfl] at e2'
    cases e2'
    obtain ⟨m2, st', tok', sc', L', em2, e3, h3⟩ := h2.step
    have hA3 := all_step hA2 e3
    have e3' := e3
    unfold qStep at e3'
    dsimp only at e3'
    rw [if_neg (by decide), if_neg (by decide), if_neg (by decide), if_neg (by decide), if_neg (by decide), if_neg (by decide), if_neg (by decide), if_neg (by decide), if_pos rfl] at e3'
    cases e3'
    have l0 : (qA 5 (0, tok + 1, 0, 0, 0) (qEmpL (kT t) a b tok (qOpen 0 (tok + 1) sc (qNote a tok (kT t tok) L)))) 0 = L 0 ++ [(sc, 0, if (0 : Nat) = 1 then (L 0).length else qHome L sc, (qg (L 0) sc).2.2.2.1 + 1, tok + 1)] := by
      rw [qA_n _ _ (by decide), q_emp_at (by decide)]
      unfold qOpen qHome
      rw [qA_s, q_note_at (by decide) (by decide)]
    have nl : qNote a tok (kT t tok) L 0 = L 0 := q_note_at (by decide) (by decide)
    rw [nl, l0, qg_eq] at h3 hA3
    refine ⟨m2, _, by omega, by rw [if_neg (by omega)]; exact h3, by rw [if_neg (by omega)]; exact hA3, ?_⟩
    intro s hs'
    rw [l0, qg_lt hs']
