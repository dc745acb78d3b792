/-! PURE: what lies on what in the machine's stack; which TOKENS a step takes -/
def inL (x : qI) : Prop := x.1 = 2 ∧ x.2.2.1 ≠ 0 ∧ x.2.2.2 < 2
def adjOk (x : qI) (r : List qI) : Prop := ((x.1 = 5 ∨ x.1 = 6) → ∃ y r', r = y :: r' ∧ (y.1 = 4 ∨ y.1 = 8)) ∧ (x.1 = 7 → ∃ y r', r = y :: r' ∧ y.1 = 6) ∧ (inL x → ∃ y r', r = y :: r' ∧ y.1 = 1)
def adj : List qI → Prop
  | [] => True
  | x :: r => adjOk x r ∧ adj r
def noL (r : List qI) : Prop := ∀ y, y ∈ r → ¬ inL y
def adjS : List qI → Prop
  | [] => True
  | x :: r => noL r ∧ adj (x :: r)
theorem adjS.tail {x : qI} {r : List qI} (h : adjS (x :: r)) : adjS r := by
  cases r with
  | nil => trivial
  | cons y r' => exact ⟨fun z hz => h.1 z (List.mem_cons_of_mem _ hz), h.2.2⟩
theorem adj_plain {x : qI} {r : List qI} (h5 : x.1 ≠ 5) (h6 : x.1 ≠ 6) (h7 : x.1 ≠ 7) (hL : ¬ inL x) : adjOk x r :=
  ⟨fun h => absurd h (by omega), fun h => absurd h h7, fun h => absurd h hL⟩
theorem inL_n2 {x : qI} (h : x.1 ≠ 2) : ¬ inL x := fun e => h e.1
theorem adj_val {d a d' a' b' w : Nat} {r : List qI} (hw : w = 4 ∨ w = 8) : adjOk (5, d, a, 0) ((w, d', a', b') :: r) :=
  ⟨fun _ => ⟨_, _, rfl, hw⟩, fun h => absurd (show 5 = 7 from h) (by decide), fun h => absurd (show 5 = 2 from h.1) (by decide)⟩
theorem noL_cons {x : qI} {r : List qI} (hx : ¬ inL x) (h : noL r) : noL (x :: r) := by
  intro y hy
  rcases List.mem_cons.mp hy with hy | hy
  · subst hy; exact hx
  · exact h y hy
/-- a VALUE and what must follow it, over r -/
theorem adjS_val {d a d' a' b' w : Nat} {r : List qI} (hw : w = 4 ∨ w = 8) (hn : noL r) (ha : adj r) : adjS ((5, d, a, 0) :: (w, d', a', b') :: r) :=
  ⟨noL_cons (inL_n2 (by show w ≠ 2; omega)) hn, adj_val hw, adj_plain (by show w ≠ 5; omega) (by show w ≠ 6; omega) (by show w ≠ 7; omega) (inL_n2 (by show w ≠ 2; omega)), ha⟩
theorem adjS_list {d a b d' : Nat} {r : List qI} (hn : noL r) (ha : adj r) : adjS ((1, d, a, b) :: (9, d', 0, 0) :: r) :=
  ⟨noL_cons (inL_n2 (by show 9 ≠ 2; decide)) hn, adj_plain (by show 1 ≠ 5; decide) (by show 1 ≠ 6; decide) (by show 1 ≠ 7; decide) (inL_n2 (by show 1 ≠ 2; decide)), adj_plain (by show 9 ≠ 5; decide) (by show 9 ≠ 6; decide) (by show 9 ≠ 7; decide) (inL_n2 (by show 9 ≠ 2; decide)), ha⟩
theorem adjS_st {d a b : Nat} {r : List qI} (hL : ¬ (a ≠ 0 ∧ b < 2)) (hn : noL r) (ha : adj r) : adjS ((2, d, a, b) :: r) :=
  ⟨hn, adj_plain (by show 2 ≠ 5; decide) (by show 2 ≠ 6; decide) (by show 2 ≠ 7; decide) (fun h => hL h.2), ha⟩
theorem adj_step {tk wd dg : Nat → Nat} {st st' : List qI} {tok sc tok' sc' : Nat} {L L' : qL} (h : adjS st) (e : qStep tk wd dg (st, tok, sc, L) = .inr (st', tok', sc', L')) : adjS st' := by
  cases st with
  | nil => cases e; exact h
  | cons x r =>
    have ht := h.tail
    obtain ⟨hn, hx, ha⟩ := h
    obtain ⟨w, d, a, b⟩ := x
    unfold qStep at e
    dsimp only at e
    split at e
    · unfold qLst at e
      split at e
      · rename_i w1 _
        cases e
        subst w1
        refine ⟨noL_cons (inL_n2 (by show 1 ≠ 2; decide)) hn, ⟨fun h => absurd h (by show ¬ (2 = 5 ∨ 2 = 6); decide), fun h => absurd (show 2 = 7 from h) (by decide), fun _ => ⟨_, _, rfl, rfl⟩⟩, adj_plain (by show 1 ≠ 5; decide) (by show 1 ≠ 6; decide) (by show 1 ≠ 7; decide) (inL_n2 (by show 1 ≠ 2; decide)), ha⟩
      · cases e; exact ht
    split at e
    · rw [qStat_rest] at e
      split at e
      · cases e
      split at e
      · unfold qsExc at e
        split at e
        · cases e
          exact adjS_st (fun h => by omega) (noL_cons (inL_n2 (by show 10 ≠ 2; decide)) hn) ⟨adj_plain (by show 10 ≠ 5; decide) (by show 10 ≠ 6; decide) (by show 10 ≠ 7; decide) (inL_n2 (by show 10 ≠ 2; decide)), ha⟩
        · cases e
      generalize qNote a tok (tk tok) L = L at *
      unfold qRestS at e
      split at e
      · unfold qsVar at e
        split at e
        · cases e
        split at e
        · cases e; exact ht
        split at e
        · cases e
        · cases e; exact adjS_val (.inl rfl) hn ha
      split at e
      · unfold qsFn at e
        split at e
        · cases e
        split at e
        · cases e
        cases hp : qPars tk wd ((qDecL wd (tok + 1) 3 sc L) 0).length (tok + 3) (qOpen 1 (tok + 1) sc (qDecL wd (tok + 1) 3 sc L)) with
        | inl x => rw [hp] at e; cases e
        | inr y =>
          rw [hp] at e
          unfold qsBody at e
          dsimp only at e
          split at e
          · cases e
          split at e
          · cases e
          · unfold qList at e
            cases e
            exact adjS_list hn ha
      split at e
      · unfold qsBlk qList at e
        cases e
        exact adjS_list hn ha
      split at e
      · unfold qsIf at e
        split at e
        · cases e
        · cases e
          have k : ∀ r2 : List qI, noL r2 → adj r2 → adjS ((5, d, 0, 0) :: (4, d, 17, 0) :: (2, d + 1, 0, 1) :: r2) := by
            intro r2 h1 h2
            have n2 : ¬ inL (2, d + 1, 0, 1) := fun h => h.2.1 rfl
            exact adjS_val (.inl rfl) (noL_cons n2 h1) ⟨adj_plain (by show 2 ≠ 5; decide) (by show 2 ≠ 6; decide) (by show 2 ≠ 7; decide) n2, h2⟩
          split
          · exact k _ (noL_cons (inL_n2 (by show 3 ≠ 2; decide)) hn) ⟨adj_plain (by show 3 ≠ 5; decide) (by show 3 ≠ 6; decide) (by show 3 ≠ 7; decide) (inL_n2 (by show 3 ≠ 2; decide)), ha⟩
          · exact k _ hn ha
      split at e
      · unfold qsRet at e
        split at e
        · cases e
        split at e
        · cases e; exact ht
        · cases e; exact adjS_val (.inl rfl) hn ha
      split at e
      · cases e; exact ht
      · cases e; exact adjS_val (.inl rfl) hn ha
    split at e
    · unfold qOth at e
      split at e
      · cases e; exact adjS_st (fun h => h.1 rfl) hn ha
      · cases e; exact ht
    split at e
    · unfold qOne at e
      split at e
      · cases e; exact ht
      · cases e
    split at e
    · rename_i w5
      subst w5
      obtain ⟨y, r', er, hy⟩ := hx.1 (.inl rfl)
      subst er
      unfold qVal at e
      split at e
      · cases e
      split at e
      · cases e
        exact ⟨hn, ⟨fun _ => ⟨_, _, rfl, hy⟩, fun h => absurd (show 5 = 7 from h) (by decide), fun h => absurd (show 5 = 2 from h.1) (by decide)⟩, ha⟩
      · cases e
        exact ⟨noL_cons (inL_n2 (by show 6 ≠ 2; decide)) hn, ⟨fun h => absurd h (by show ¬ (7 = 5 ∨ 7 = 6); decide), fun _ => ⟨_, _, rfl, rfl⟩, fun h => absurd (show 7 = 2 from h.1) (by decide)⟩, ⟨fun _ => ⟨_, _, rfl, hy⟩, fun h => absurd (show 6 = 7 from h) (by decide), fun h => absurd (show 6 = 2 from h.1) (by decide)⟩, ha⟩
    split at e
    · rename_i w6
      subst w6
      obtain ⟨y, r', er, hy⟩ := hx.1 (.inr rfl)
      subst er
      unfold qMore at e
      split at e
      · cases e
        exact ⟨noL_cons (inL_n2 (by show 6 ≠ 2; decide)) hn, ⟨fun h => absurd h (by show ¬ (7 = 5 ∨ 7 = 6); decide), fun _ => ⟨_, _, rfl, rfl⟩, fun h => absurd (show 7 = 2 from h.1) (by decide)⟩, ⟨fun _ => ⟨_, _, rfl, hy⟩, fun h => absurd (show 6 = 7 from h) (by decide), fun h => absurd (show 6 = 2 from h.1) (by decide)⟩, ha⟩
      · cases e; exact ht
    split at e
    · rename_i w7
      subst w7
      obtain ⟨y, r', er, hy⟩ := hx.2.1 rfl
      subst er
      unfold qPart at e
      repeat' split at e
      all_goals first
        | (cases e; done)
        | (cases e; exact ht)
        | (cases e; exact adjS_val (.inr rfl) hn ha)
        | (cases e; exact adjS_val (.inl rfl) hn ha)
        | (cases e; exact ⟨hn, ⟨fun h => absurd h (by show ¬ (7 = 5 ∨ 7 = 6); decide), fun _ => ⟨_, _, rfl, hy⟩, fun h => absurd (show 7 = 2 from h.1) (by decide)⟩, ha⟩)
    split at e
    · unfold qRest at e
      split at e
      · cases e; exact adjS_val (.inr rfl) hn ha
      split at e
      · cases e; exact ht
      · cases e
    split at e
    · cases e; exact ht
    · cases e; exact ht
/-- TOKEN p was taken as a STATEMENT that may go -/
def mrk (L : qL) (p : Nat) : Prop := (∃ e, e ∈ L 19 ∧ e.1 = p) ∨ (∃ e, e ∈ L 18 ∧ e.1 = p ∧ e.2.1 = 1)
def mrk6 (L : qL) (p : Nat) : Prop := ∃ e, e ∈ L 6 ∧ e.1 = p
theorem mrk.of {L L' : qL} {p : Nat} (h : mrk L' p) (e19 : L' 19 = L 19) (e18 : L' 18 = L 18) : mrk L p := by
  unfold mrk at *; rw [e19, e18] at h; exact h
theorem mrk6.of {L L' : qL} {p : Nat} (h : mrk6 L' p) (e6 : L' 6 = L 6) : mrk6 L p := by
  unfold mrk6 at *; rw [e6] at h; exact h
/-- what a step marks -/
theorem eff_step {tk wd dg : Nat → Nat} {w d a b : Nat} {r st' : List qI} {tok sc tok' sc' : Nat} {L L' : qL} (e : qStep tk wd dg ((w, d, a, b) :: r, tok, sc, L) = .inr (st', tok', sc', L')) : (∀ p, mrk L' p → mrk L p ∨ (p = tok ∧ w = 2 ∧ a ≠ 0 ∧ b < 2)) ∧ (∀ p, mrk6 L' p → mrk6 L p ∨ (p = tok ∧ w = 2 ∧ tk tok = 0 ∧ tk (tok + 2) = 10)) := by
  have same : L' 19 = L 19 → L' 18 = L 18 → L' 6 = L 6 → (∀ p, mrk L' p → mrk L p ∨ (p = tok ∧ w = 2 ∧ a ≠ 0 ∧ b < 2)) ∧ (∀ p, mrk6 L' p → mrk6 L p ∨ (p = tok ∧ w = 2 ∧ tk tok = 0 ∧ tk (tok + 2) = 10)) :=
    fun h1 h2 h3 => ⟨fun p hp => .inl (hp.of h1 h2), fun p hp => .inl (hp.of h3)⟩
  unfold qStep at e
  dsimp only at e
  split at e
  · unfold qLst at e
    split at e <;> (cases e; exact same rfl rfl rfl)
  split at e
  · rename_i _ w2
    subst w2
    rw [qStat_rest] at e
    split at e
    · cases e
    split at e
    · unfold qsExc at e
      split at e
      · cases e; exact same (qA_n _ _ (by decide)) (qA_n _ _ (by decide)) (qA_n _ _ (by decide))
      · cases e
    have n19 : qNote a tok (tk tok) L 19 = L 19 := q_note_at (by decide) (by decide)
    have n18 : qNote a tok (tk tok) L 18 = L 18 := q_note_at (by decide) (by decide)
    have n6 : qNote a tok (tk tok) L 6 = L 6 := q_note_at (by decide) (by decide)
    generalize qNote a tok (tk tok) L = N at *
    unfold qRestS at e
    split at e
    · unfold qsVar at e
      split at e
      · cases e
      split at e
      · cases e
        exact same (by rw [q_dec_at (by decide) (by decide)]; exact n19) (by rw [q_dec_at (by decide) (by decide)]; exact n18) (by rw [q_dec_at (by decide) (by decide)]; exact n6)
      split at e
      · cases e
      · rename_i c10
        cases e
        refine ⟨fun p hp => .inl (hp.of (by rw [q_let_at (by decide) (by decide), q_dec_at (by decide) (by decide)]; exact n19) (by rw [q_let_at (by decide) (by decide), q_dec_at (by decide) (by decide)]; exact n18)), ?_⟩
        intro p hp
        unfold qLetL at hp
        split at hp
        · rename_i c0
          obtain ⟨x, hx, ex⟩ := hp
          rw [qA_s] at hx
          rcases List.mem_append.mp hx with hx | hx
          · left
            refine ⟨x, ?_, ex⟩
            unfold qVald at hx
            rw [qM_n _ _ _ (by decide), q_dec_at (by decide) (by decide), n6] at hx
            exact hx
          · right
            rw [List.mem_singleton] at hx
            subst hx
            exact ⟨ex.symm, rfl, c0, by omega⟩
        · left
          unfold qVald at hp
          exact hp.of (by rw [qM_n _ _ _ (by decide), q_dec_at (by decide) (by decide)]; exact n6)
    split at e
    · unfold qsFn at e
      split at e
      · cases e
      split at e
      · cases e
      cases hp : qPars tk wd ((qDecL wd (tok + 1) 3 sc N) 0).length (tok + 3) (qOpen 1 (tok + 1) sc (qDecL wd (tok + 1) 3 sc N)) with
      | inl x => rw [hp] at e; cases e
      | inr y =>
        obtain ⟨q, L4⟩ := y
        have k : ∀ g, g ≠ 1 → g ≠ 14 → g ≠ 0 → L4 g = N g := by
          intro g g1 g14 g0
          rw [q_pars_45 g1 g14 hp, q_open_at g0, q_dec_at g1 g14]
        rw [hp] at e
        unfold qsBody at e
        dsimp only at e
        split at e
        · cases e
        split at e
        · cases e
        · unfold qList at e
          cases e
          exact same (by rw [qA_n _ _ (by decide), k 19 (by decide) (by decide) (by decide)]; exact n19) (by rw [qA_n _ _ (by decide), k 18 (by decide) (by decide) (by decide)]; exact n18) (by rw [qA_n _ _ (by decide), k 6 (by decide) (by decide) (by decide)]; exact n6)
    split at e
    · unfold qsBlk qList at e
      cases e
      refine ⟨?_, fun p hp => .inl (hp.of (by rw [qA_n _ _ (by decide), q_emp_at (by decide), q_open_at (by decide)]; exact n6))⟩
      intro p hp
      rcases hp with ⟨x, hx, ex⟩ | ⟨x, hx, ex, ex2⟩
      · left; left
        rw [qA_n _ _ (by decide), q_emp_at (by decide), q_open_at (by decide), n19] at hx
        exact ⟨x, hx, ex⟩
      · rw [qA_n _ _ (by decide)] at hx
        unfold qEmpL at hx
        split at hx
        · rw [qA_s, q_open_at (by decide), n18] at hx
          rcases List.mem_append.mp hx with hx | hx
          · left; right; exact ⟨x, hx, ex, ex2⟩
          · rw [List.mem_singleton] at hx
            subst hx
            right
            dsimp only at ex ex2
            split at ex2
            · rename_i hc; exact ⟨ex.symm, rfl, hc⟩
            · cases ex2
        · left; right
          rw [q_open_at (by decide), n18] at hx
          exact ⟨x, hx, ex, ex2⟩
    split at e
    · unfold qsIf at e
      split at e
      · cases e
      · cases e; exact same n19 n18 n6
    split at e
    · unfold qsRet at e
      split at e
      · cases e
      split at e
      · cases e; exact same n19 n18 n6
      · cases e; exact same n19 n18 n6
    split at e
    · cases e
      refine ⟨?_, fun p hp => .inl (hp.of (by rw [q_spa_at (by decide)]; exact n6))⟩
      intro p hp
      rcases hp with ⟨x, hx, ex⟩ | ⟨x, hx, ex, ex2⟩
      · unfold qSpaL at hx
        split at hx
        · rename_i hc
          rw [qA_s, n19] at hx
          rcases List.mem_append.mp hx with hx | hx
          · left; left; exact ⟨x, hx, ex⟩
          · rw [List.mem_singleton] at hx
            subst hx
            right
            exact ⟨ex.symm, rfl, hc⟩
        · rw [n19] at hx; left; left; exact ⟨x, hx, ex⟩
      · left; right
        rw [q_spa_at (by decide), n18] at hx
        exact ⟨x, hx, ex, ex2⟩
    · cases e; exact same n19 n18 n6
  split at e
  · unfold qOth at e; split at e <;> (cases e; exact same rfl rfl rfl)
  split at e
  · unfold qOne at e
    split at e
    · cases e; exact same rfl rfl rfl
    · cases e
  split at e
  · unfold qVal at e
    split at e
    · cases e
    split at e
    · cases e; exact same (qA_n _ _ (by decide)) (qA_n _ _ (by decide)) (qA_n _ _ (by decide))
    · cases e; exact same rfl rfl rfl
  split at e
  · unfold qMore at e
    split at e
    · cases e
      exact same (by split <;> rfl) (by split <;> rfl) (by split <;> rfl)
    · cases e; exact same rfl rfl rfl
  split at e
  · unfold qPart at e
    repeat' split at e
    all_goals first
      | (cases e; done)
      | (cases e; exact same rfl rfl rfl)
      | (cases e; exact same (qA_n _ _ (by decide)) (qA_n _ _ (by decide)) (qA_n _ _ (by decide)))
  split at e
  · unfold qRest at e
    split at e
    · cases e; exact same rfl rfl rfl
    split at e
    · cases e; exact same rfl rfl rfl
    · cases e
  split at e
  · cases e; exact same rfl rfl rfl
  · cases e; exact same (qM_n _ _ _ (by decide)) (qM_n _ _ _ (by decide)) (qM_n _ _ _ (by decide))
