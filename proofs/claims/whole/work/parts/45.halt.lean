/-! the run of the machine -/
/-- a config that is well -/
def qWell (tk : Nat → Nat) (T : Nat) (c : qC) : Prop := c.2.1 ≤ T ∧ qOk tk (qBd c.1 c.2.1) c.2.2.1 c.2.2.2 ∧ qSk (c.2.2.2 4).length (c.2.2.2 5).length c.1
theorem q_well_step {tk wd dg : Nat → Nat} {T : Nat} (hT : ∀ i, i ≤ T → tk i ≤ 25 → i + 1 ≤ T) {c c' : qC} (h : qWell tk T c) (e : qStep tk wd dg c = .inr c') : qWell tk T c' := by
  obtain ⟨st, tok, sc, L⟩ := c
  obtain ⟨st', tok', sc', L'⟩ := c'
  cases st with
  | nil => cases e; exact h
  | cons x r =>
    obtain ⟨h1, h2, h3⟩ := h
    have g := good_step (wd := wd) (dg := dg) h2 _ _ _ _ e
    have k := (keep_step (wd := wd) (dg := dg) (sc := sc) hT h1 h3).2 _ _ _ _ e
    exact ⟨k.1, g.2, k.2.2.2.1⟩
theorem q_well_go {tk wd dg : Nat → Nat} {T : Nat} (hT : ∀ i, i ≤ T → tk i ≤ 25 → i + 1 ≤ T) : ∀ (m : Nat) {c c' : qC}, qWell tk T c → qGo tk wd dg m c = .inr c' → qWell tk T c' := by
  intro m
  induction m with
  | zero => intro c c' h e; rw [qGo] at e; cases e; exact h
  | succ m ih =>
    intro c c' h e
    rw [qGo] at e
    cases s : qStep tk wd dg c with
    | inl x => rw [s] at e; cases e
    | inr c2 => rw [s] at e; exact ih (q_well_step hT h s) e
theorem q_halt {tk wd dg : Nat → Nat} {T : Nat} (hT : ∀ i, i ≤ T → tk i ≤ 25 → i + 1 ≤ T) : ∀ (m : Nat) {c : qC}, qWell tk T c → qPhi c.1 + 7 * ((T : Int) - (c.2.1 : Int)) + 150 < (m : Int) → (∃ e, e ≤ T ∧ qGo tk wd dg m c = .inl e) ∨ ∃ tok sc L, qGo tk wd dg m c = .inr ([], tok, sc, L) := by
  intro m
  induction m with
  | zero =>
    intro c h hm
    have h1 := q_phi_ge c.1
    have h2 := q_sk_len h.2.2
    have h3 := h.1
    omega
  | succ m ih =>
    intro c h hm
    obtain ⟨st, tok, sc, L⟩ := c
    cases st with
    | nil => exact .inr ⟨tok, sc, L, qGo_nil ..⟩
    | cons x r =>
      have k := keep_step (wd := wd) (dg := dg) (sc := sc) hT h.1 h.2.2
      rw [qGo]
      cases s : qStep tk wd dg (x :: r, tok, sc, L) with
      | inl e => exact .inl ⟨e, k.1 e s, rfl⟩
      | inr c2 =>
        obtain ⟨st', tok', sc', L'⟩ := c2
        have k2 := k.2 _ _ _ _ s
        have : qPhi st' - 7 * (tok' : Int) + 1 ≤ qPhi (x :: r) - 7 * (tok : Int) := k2.2.2.2.2
        exact ih (q_well_step hT h s) (by dsimp only at hm ⊢; omega)
theorem q_well_0 {tk : Nat → Nat} {T : Nat} : qWell tk T q0 := by
  refine ⟨Nat.zero_le _, ⟨?_, ?_, ?_, ?_, ?_, ?_, ?_, ?_, ?_⟩, ?_⟩
  · intro f
    unfold q0 qSo
    dsimp only
    by_cases h0 : f = 0
    · subst h0; simp [qKey]
    · by_cases h5 : f = 5
      · subst h5; simp [qKey]
      · simp [h0, h5]
  · show 0 < 1; decide
  · refine ⟨by show 0 < 1; decide, rfl, ?_⟩
    intro i h0 hi
    have : i < 1 := hi
    omega
  · intro i hi; exact absurd (show i < 0 from hi) (by omega)
  · intro e he; exact absurd (show e ∈ [] from he) (by simp)
  · refine ⟨?_, ?_⟩
    · intro e he; exact absurd (show e ∈ [] from he) (by simp)
    · intro i hi; exact absurd (show i < 0 from hi) (by omega)
  · intro e he; exact absurd (show e ∈ [] from he) (by simp)
  · refine ⟨?_, ?_, ?_, ?_, ?_⟩ <;> (intro e he; exact absurd (show e ∈ [] from he) (by simp))
  · intro e he; exact absurd (show e ∈ [] from he) (by simp)
  · refine ⟨?_, trivial⟩
    exact qi_1 (by omega) (by omega) (by show 0 + 2 ≤ 2 * 1; omega) (by show 0 < 1; omega) (.inr rfl)
/-- all that the grammar says of a row of TOKENS: the wrong one, or where it ends, the SCOPE there and the lists -/
def qRun (tk wd dg : Nat → Nat) : Nat ⊕ qC := qGo tk wd dg 600 q0
theorem q_run_ends {tk wd dg : Nat → Nat} {T : Nat} (hT : ∀ i, i ≤ T → tk i ≤ 25 → i + 1 ≤ T) (h60 : T ≤ 60) : (∃ e, e ≤ T ∧ qRun tk wd dg = .inl e) ∨ ∃ tok sc L, qRun tk wd dg = .inr ([], tok, sc, L) := by
  refine q_halt hT 600 q_well_0 ?_
  show (1 + 0 : Int) + 7 * ((T : Int) - ((0 : Nat) : Int)) + 150 < ((600 : Nat) : Int)
  omega
theorem q_run_of {tk wd dg : Nat → Nat} {m : Nat} {r : Nat ⊕ qC} (hm : m ≤ 600) (h : qGo tk wd dg m q0 = r) (hr : (∃ e, r = .inl e) ∨ ∃ tok sc L, r = .inr ([], tok, sc, L)) : qRun tk wd dg = r := by
  unfold qRun
  obtain ⟨k, hk⟩ : ∃ k, 600 = m + k := ⟨600 - m, by omega⟩
  rw [hk, qGo_add, h]
  rcases hr with ⟨e, rfl⟩ | ⟨tok, sc, L, rfl⟩
  · rfl
  · exact qGo_nil ..
/-- however many steps it took -/
theorem q_run_any {tk wd dg : Nat → Nat} {T m : Nat} {r : Nat ⊕ qC} (hT : ∀ i, i ≤ T → tk i ≤ 25 → i + 1 ≤ T) (h60 : T ≤ 60) (h : qGo tk wd dg m q0 = r) (hr : (∃ e, r = .inl e) ∨ ∃ tok sc L, r = .inr ([], tok, sc, L)) : qRun tk wd dg = r := by
  by_cases hm : m ≤ 600
  · exact q_run_of hm h hr
  · obtain ⟨k, rfl⟩ : ∃ k, m = 600 + k := ⟨m - 600, by omega⟩
    rw [qGo_add] at h
    rcases q_run_ends (wd := wd) (dg := dg) hT h60 with ⟨e, _, he⟩ | ⟨tok, sc, L, he⟩
    · unfold qRun at he ⊢; rw [he] at h ⊢; exact h
    · unfold qRun at he ⊢; rw [he] at h ⊢; exact (qGo_nil ..).symm.trans h
