/-! PURE: what stands before a STATEMENT of a LIST -/
def ends (tk : Nat → Nat) (tok : Nat) : Prop := tok = 0 ∨ tk (tok - 1) = 18 ∨ tk (tok - 1) = 19 ∨ tk (tok - 1) = 20
def endI (x : qI) : Prop := x.1 = 1 ∨ x.1 = 3 ∨ x.1 = 9 ∨ x.1 = 10 ∨ inL x
def undOk (x : qI) (r : List qI) : Prop := ((x.1 = 4 ∧ x.2.2.1 = 17) → ∃ y r', r = y :: r' ∧ ¬ endI y) ∧ (x.1 = 8 → ∃ y r', r = y :: r' ∧ y.1 = 6)
def und : List qI → Prop
  | [] => True
  | x :: r => undOk x r ∧ und r
theorem und_plain {x : qI} {r : List qI} (h4 : x.1 ≠ 4) (h8 : x.1 ≠ 8) : undOk x r := ⟨fun h => absurd h.1 h4, fun h => absurd h h8⟩
theorem und_20 {d b : Nat} {r : List qI} : undOk (4, d, 20, b) r := ⟨fun h => absurd (show 20 = 17 from h.2) (by decide), fun h => absurd (show 4 = 8 from h) (by decide)⟩
theorem no_end {w d a b : Nat} (h1 : w ≠ 1) (h2 : w ≠ 2) (h3 : w ≠ 3) (h9 : w ≠ 9) (h10 : w ≠ 10) : ¬ endI (w, d, a, b) := by
  rintro (h | h | h | h | h)
  · exact h1 h
  · exact h3 h
  · exact h9 h
  · exact h10 h
  · exact h2 h.1
def aE (tk : Nat → Nat) (st : List qI) (tok : Nat) : Prop := und st ∧ ∀ x r, st = x :: r → endI x → ends tk tok
theorem aE.ok {tk : Nat → Nat} {st : List qI} {tok : Nat} (h : und st) (he : ends tk tok) : aE tk st tok := ⟨h, fun _ _ _ _ => he⟩
theorem aE.no {tk : Nat → Nat} {x : qI} {r : List qI} {tok : Nat} (h : und (x :: r)) (hx : ¬ endI x) : aE tk (x :: r) tok := ⟨h, fun y r' e hy => by cases e; exact absurd hy hx⟩
theorem und_val {d a d' b' : Nat} {r : List qI} (h : und r) : und ((5, d, a, 0) :: (4, d', 20, b') :: r) := ⟨und_plain (by show 5 ≠ 4; decide) (by show 5 ≠ 8; decide), und_20, h⟩
theorem ends_s {tk : Nat → Nat} {tok k : Nat} (h : tk tok = k) (hk : k = 18 ∨ k = 19 ∨ k = 20) : ends tk (tok + 1) := by
  right
  rw [show tok + 1 - 1 = tok by omega]; omega
theorem ends_step {tk wd dg : Nat → Nat} {st st' : List qI} {tok sc tok' sc' : Nat} {L L' : qL} (hj : adjS st) (hlow : ∀ x r, st = x :: r → (x.1 = 1 → x.2.2.1 = 19 ∨ x.2.2.1 = 26) ∧ (x.1 = 4 → x.2.2.1 = 17 ∨ x.2.2.1 = 20) ∧ 1 ≤ x.1 ∧ x.1 ≤ 10) (h : aE tk st tok) (e : qStep tk wd dg (st, tok, sc, L) = .inr (st', tok', sc', L')) : aE tk st' tok' := by
  cases st with
  | nil => cases e; exact h
  | cons x r =>
    obtain ⟨⟨hx, hr⟩, he⟩ := h
    have he := he _ _ rfl
    have hu : und (x :: r) := ⟨hx, hr⟩
    obtain ⟨w, d, a, b⟩ := x
    unfold qStep at e
    dsimp only at e
    split at e
    · rename_i w1
      subst w1
      have en := he (.inl rfl)
      have ha : a = 19 ∨ a = 26 := (hlow _ _ rfl).1 rfl
      unfold qLst at e
      split at e
      · cases e
        exact .ok ⟨und_plain (by show 2 ≠ 4; decide) (by show 2 ≠ 8; decide), hu⟩ en
      · rename_i c
        cases e
        refine .ok hr ?_
        split
        · rename_i c1; exact ends_s (k := 19) (by omega) (by decide)
        · exact en
    split at e
    · rename_i w2
      subst w2
      rw [qStat_rest] at e
      split at e
      · cases e
      split at e
      · unfold qsExc at e
        split at e
        · cases e
          refine .no ⟨und_plain (by show 2 ≠ 4; decide) (by show 2 ≠ 8; decide), und_plain (by show 10 ≠ 4; decide) (by show 10 ≠ 8; decide), hr⟩ ?_
          rintro (h | h | h | h | h)
          · exact absurd (show 2 = 1 from h) (by decide)
          · exact absurd (show 2 = 3 from h) (by decide)
          · exact absurd (show 2 = 9 from h) (by decide)
          · exact absurd (show 2 = 10 from h) (by decide)
          · have := h.2.2
            have this : b % 2 + 2 < 2 := this
            omega
        · cases e
      generalize qNote a tok (tk tok) L = L at *
      unfold qRestS at e
      split at e
      · unfold qsVar at e
        split at e
        · cases e
        split at e
        · rename_i c
          cases e
          exact .ok hr (ends_s (tok := tok + 2) c.2 (by decide))
        split at e
        · cases e
        · cases e; exact .no (und_val hr) (no_end (by decide) (by decide) (by decide) (by decide) (by decide))
      split at e
      · unfold qsFn at e
        split at e
        · cases e
        split at e
        · cases e
        cases hp : qPars tk wd ((qDecL wd (tok + 1) 3 sc L) 0).length (tok + 3) (qOpen 1 (tok + 1) sc (qDecL wd (tok + 1) 3 sc L)) with
        | inl x => rw [hp] at e; cases e
        | inr y =>
          rw [hp] at e
          unfold qsBody at e
          dsimp only at e
          split at e
          · cases e
          split at e
          · cases e
          · rename_i c
            unfold qList at e
            cases e
            exact .ok ⟨und_plain (by show 1 ≠ 4; decide) (by show 1 ≠ 8; decide), und_plain (by show 9 ≠ 4; decide) (by show 9 ≠ 8; decide), hr⟩ (ends_s (tok := y.1 + 1) (k := 18) (by omega) (by decide))
      split at e
      · rename_i c
        unfold qsBlk qList at e
        cases e
        exact .ok ⟨und_plain (by show 1 ≠ 4; decide) (by show 1 ≠ 8; decide), und_plain (by show 9 ≠ 4; decide) (by show 9 ≠ 8; decide), hr⟩ (ends_s c (by decide))
      split at e
      · unfold qsIf at e
        split at e
        · cases e
        · cases e
          refine .no ⟨und_plain (by show 5 ≠ 4; decide) (by show 5 ≠ 8; decide), ⟨fun _ => ⟨_, _, rfl, ?_⟩, fun h => absurd (show 4 = 8 from h) (by decide)⟩, und_plain (by show 2 ≠ 4; decide) (by show 2 ≠ 8; decide), ?_⟩ (no_end (by decide) (by decide) (by decide) (by decide) (by decide))
          · rintro (h | h | h | h | h)
            · exact absurd (show 2 = 1 from h) (by decide)
            · exact absurd (show 2 = 3 from h) (by decide)
            · exact absurd (show 2 = 9 from h) (by decide)
            · exact absurd (show 2 = 10 from h) (by decide)
            · exact h.2.1 rfl
          · split
            · exact ⟨und_plain (by show 3 ≠ 4; decide) (by show 3 ≠ 8; decide), hr⟩
            · exact hr
      split at e
      · unfold qsRet at e
        split at e
        · cases e
        split at e
        · rename_i c
          cases e
          exact .ok hr (ends_s (tok := tok + 1) c (by decide))
        · cases e; exact .no (und_val hr) (no_end (by decide) (by decide) (by decide) (by decide) (by decide))
      split at e
      · rename_i c
        cases e; exact .ok hr (ends_s c (by decide))
      · cases e; exact .no (und_val hr) (no_end (by decide) (by decide) (by decide) (by decide) (by decide))
    split at e
    · rename_i w3
      have en := he (.inr (.inl w3))
      unfold qOth at e
      split at e
      · cases e
        refine .no ⟨und_plain (by show 2 ≠ 4; decide) (by show 2 ≠ 8; decide), hr⟩ ?_
        rintro (h | h | h | h | h)
        · exact absurd (show 2 = 1 from h) (by decide)
        · exact absurd (show 2 = 3 from h) (by decide)
        · exact absurd (show 2 = 9 from h) (by decide)
        · exact absurd (show 2 = 10 from h) (by decide)
        · exact h.2.1 rfl
      · cases e; exact .ok hr en
    split at e
    · rename_i w4
      unfold qOne at e
      split at e
      · rename_i c
        cases e
        by_cases c17 : a = 17
        · obtain ⟨y, r', er, hy⟩ := hx.1 ⟨w4, c17⟩
          subst er
          exact .no hr hy
        · have ha : a = 17 ∨ a = 20 := (hlow _ _ rfl).2.1 w4
          exact .ok hr (ends_s c (by omega))
      · cases e
    split at e
    · rename_i w5
      subst w5
      unfold qVal at e
      split at e
      · cases e
      split at e
      · cases e
        exact .no ⟨und_plain (by show 5 ≠ 4; decide) (by show 5 ≠ 8; decide), hr⟩ (no_end (by decide) (by decide) (by decide) (by decide) (by decide))
      · cases e
        exact .no ⟨und_plain (by show 7 ≠ 4; decide) (by show 7 ≠ 8; decide), und_plain (by show 6 ≠ 4; decide) (by show 6 ≠ 8; decide), hr⟩ (no_end (by decide) (by decide) (by decide) (by decide) (by decide))
    split at e
    · rename_i w6
      subst w6
      obtain ⟨y, r', er, hy⟩ := hj.2.1.1 (.inr rfl)
      subst er
      unfold qMore at e
      split at e
      · cases e
        exact .no ⟨und_plain (by show 7 ≠ 4; decide) (by show 7 ≠ 8; decide), und_plain (by show 6 ≠ 4; decide) (by show 6 ≠ 8; decide), hr⟩ (no_end (by decide) (by decide) (by decide) (by decide) (by decide))
      · cases e
        obtain ⟨w2, d2, a2, b2⟩ := y
        have hy : w2 = 4 ∨ w2 = 8 := hy
        exact .no hr (no_end (by omega) (by omega) (by omega) (by omega) (by omega))
    split at e
    · rename_i w7
      subst w7
      obtain ⟨y, r', er, hy⟩ := hj.2.1.2.1 rfl
      subst er
      obtain ⟨w2, d2, a2, b2⟩ := y
      have hy : w2 = 6 := hy
      subst hy
      have n6 : ¬ endI (6, d2, a2, b2) := no_end (by decide) (by decide) (by decide) (by decide) (by decide)
      unfold qPart at e
      repeat' split at e
      all_goals first
        | (cases e; done)
        | (cases e; exact .no hr n6)
        | (cases e; exact .no ⟨und_plain (by show 5 ≠ 4; decide) (by show 5 ≠ 8; decide), ⟨fun h => absurd (show 8 = 4 from h.1) (by decide), fun _ => ⟨_, _, rfl, rfl⟩⟩, hr⟩ (no_end (by decide) (by decide) (by decide) (by decide) (by decide)))
        | (cases e; exact .no ⟨und_plain (by show 5 ≠ 4; decide) (by show 5 ≠ 8; decide), ⟨fun _ => ⟨_, _, rfl, n6⟩, fun h => absurd (show 4 = 8 from h) (by decide)⟩, hr⟩ (no_end (by decide) (by decide) (by decide) (by decide) (by decide)))
        | (cases e; exact .no ⟨und_plain (by show 7 ≠ 4; decide) (by show 7 ≠ 8; decide), hr⟩ (no_end (by decide) (by decide) (by decide) (by decide) (by decide)))
    split at e
    · rename_i w8
      subst w8
      obtain ⟨y, r', er, hy⟩ := hx.2 rfl
      subst er
      obtain ⟨w2, d2, a2, b2⟩ := y
      have hy : w2 = 6 := hy
      subst hy
      unfold qRest at e
      split at e
      · cases e
        exact .no ⟨und_plain (by show 5 ≠ 4; decide) (by show 5 ≠ 8; decide), ⟨fun h => absurd (show 8 = 4 from h.1) (by decide), fun _ => ⟨_, _, rfl, rfl⟩⟩, hr⟩ (no_end (by decide) (by decide) (by decide) (by decide) (by decide))
      split at e
      · cases e; exact .no hr (no_end (by decide) (by decide) (by decide) (by decide) (by decide))
      · cases e
    split at e
    · rename_i w9
      have en := he (.inr (.inr (.inl w9)))
      cases e; exact .ok hr en
    · have hw : 1 ≤ w ∧ w ≤ 10 := (hlow _ _ rfl).2.2
      have en := he (.inr (.inr (.inr (.inl (by show w = 10; omega)))))
      cases e; exact .ok hr en
theorem all_low {t : List Nat} {st : List qI} {tok sc : Nat} {L : qL} (h : qAll t (st, tok, sc, L)) : ∀ x r, st = x :: r → (x.1 = 1 → x.2.2.1 = 19 ∨ x.2.2.1 = 26) ∧ (x.1 = 4 → x.2.2.1 = 17 ∨ x.2.2.1 = 20) ∧ 1 ≤ x.1 ∧ x.1 ≤ 10 := by
  intro x r e
  subst e
  obtain ⟨w, d, a, b⟩ := x
  have hq : qIt (L 4).length (L 5).length r.length w d a b := h.1.2.2.1.2.2.2
  refine ⟨?_, ?_, ?_⟩
  · intro hw
    have hw : w = 1 := hw
    subst hw
    exact hq.2.2
  · intro hw
    have hw : w = 4 := hw
    subst hw
    exact hq
  · unfold qIt at hq
    split at hq <;> first | (constructor <;> (show _ ≤ _; omega)) | exact absurd hq id
/-- what goes stands behind the end of a STATEMENT, or behind the begin of a LIST -/
theorem acc_ends {t : List Nat} {F : qL} {p : Nat} (hm : mrk F p) : ∀ (m : Nat) (st : List qI) (tok sc : Nat) (L : qL), qAll t (st, tok, sc, L) → adjS st → aE (kT t) st tok → qAcc t m (st, tok, sc, L) F → tok ≤ p → ends (kT t) p := by
  intro m
  induction m with
  | zero =>
    intro st tok sc L hA hj hE h hp
    obtain ⟨tf, sf, h⟩ := h
    rw [qGo] at h
    cases h
    have := mrk_lt hA hm
    omega
  | succ m ih =>
    intro st tok sc L hA hj hE h hp
    cases st with
    | nil =>
      rw [h.nil] at hm
      have := mrk_lt hA hm
      omega
    | cons x r =>
      obtain ⟨m0, st', tok', sc', L', e0, e1, h1⟩ := h.step
      have : m0 = m := by omega
      subst this
      by_cases c : tok' ≤ p
      · exact ih st' tok' sc' L' (all_step hA e1) (adj_step hj e1) (ends_step hj (all_low hA) hE e1) h1 c
      · obtain ⟨w, d, a, b⟩ := x
        obtain ⟨ep, hw, hL⟩ := (acc_reg hA e1 h1).1 p hp (by omega) hm
        subst ep
        exact hE.2 _ _ rfl (.inr (.inr (.inr (.inr ⟨hw, hL⟩))))
theorem adj_0 : adjS q0.1 := ⟨fun y hy => absurd hy List.not_mem_nil, adj_plain (by decide) (by decide) (by decide) (inL_n2 (by decide)), trivial⟩
theorem aE_0 {tk : Nat → Nat} : aE tk q0.1 0 := .ok ⟨und_plain (by decide) (by decide), trivial⟩ (.inl rfl)
theorem run_ends' {t : List Nat} {tok sc : Nat} {L : qL} (h : qRun (kT t) (wT' t) (dT t) = .inr ([], tok, sc, L)) {p : Nat} (hm : mrk L p) : ends (kT t) p :=
  acc_ends hm 600 _ _ _ _ (all_0 (t := t)) adj_0 aE_0 ⟨_, _, h⟩ (Nat.zero_le _)
/-- THE SIMULATION, from the start -/
theorem sim_all {t t' : List Nat} {dr : Nat → Bool} {tok sc : Nat} {L : qL} (h : qRun (kT t) (wT' t) (dT t) = .inr ([], tok, sc, L)) (hM : mRl t t' dr L) : ∃ tok' sc' L', qRun (kT t') (wT' t') (dT t') = .inr ([], tok', sc', L') := by
  have hu : upS (nOuts q0.1) (q0.2.2.2 0) 0 (q0.2.2.2 0) 0 := Iff.rfl
  obtain ⟨m', F', tf, sf, o⟩ := sim_run hM 600 _ _ _ _ _ _ _ _ (all_0 (t := t)) (all_0 (t := t')) adj_0 ⟨_, _, h⟩ (show stS q0.1 q0.1 from ⟨itS.rfl, trivial⟩) rfl hu ⟨fun h => by omega, fun x r e hx => by cases e; exact absurd hx.1 (by decide)⟩
  exact ⟨tf, sf, F', q_run_any (g_T t') (nT_le t') o (.inr ⟨_, _, _, rfl⟩)⟩
