/-! PURE: how often a thing is DECLARED; every excuse ends -/
def qXv (st : List qI) (tok : Nat) (L : qL) : Prop := (∀ i, i < (L 1).length → (qg (L 1) i).2.2.2.1 ≤ tok ∧ (qg (L 1) i).2.2.2.2 ≤ (qg (L 1) i).2.2.2.1) ∧ (∀ i, i < (L 4).length → (qg (L 4) i).2.2.1 ≤ tok ∧ ((qg (L 4) i).2.2.1 = 0 → ∃ x, x ∈ st ∧ x.1 = 10 ∧ x.2.2.1 = i))
theorem xv_same {x : qI} {r st' : List qI} {tok tok' : Nat} {L L' : qL} (h : qXv (x :: r) tok L) (hx : x.1 ≠ 10) (e1 : L' 1 = L 1) (e4 : L' 4 = L 4) (ht : tok ≤ tok') (hs : ∀ y, y ∈ r → y ∈ st') : qXv st' tok' L' := by
  unfold qXv
  rw [e1, e4]
  refine ⟨fun i hi => ⟨Nat.le_trans (h.1 i hi).1 ht, (h.1 i hi).2⟩, fun i hi => ⟨Nat.le_trans (h.2 i hi).1 ht, fun e => ?_⟩⟩
  obtain ⟨y, hy, h1, h2⟩ := (h.2 i hi).2 e
  rcases List.mem_cons.mp hy with hy | hy
  · subst hy; exact absurd h1 hx
  · exact ⟨y, hs y hy, h1, h2⟩
/-- things alone -/
def qTm (m : Nat) (l : List qE) : Prop := ∀ i, i < l.length → (qg l i).2.2.2.1 ≤ m ∧ (qg l i).2.2.2.2 ≤ (qg l i).2.2.2.1
theorem tm_dec {wd : Nat → Nat} {p k sc m : Nat} {L : qL} (h : qTm m (L 1)) : qTm (m + 1) ((qDecL wd p k sc L) 1) ∧ (qg ((qDecL wd p k sc L) 1) (qDecT wd p k sc L)).2.2.2.2 < (qg ((qDecL wd p k sc L) 1) (qDecT wd p k sc L)).2.2.2.1 := by
  by_cases c : qDecT wd p k sc L < (L 1).length
  · have e1 : (qDecL wd p k sc L) 1 = (L 1).modify (qDecT wd p k sc L) (fun e => (e.1, e.2.1, e.2.2.1, e.2.2.2.1 + 1, e.2.2.2.2)) := by
      unfold qDecL; dsimp only; rw [if_pos c]; split <;> rfl
    rw [e1]
    have hc := h _ c
    refine ⟨?_, by rw [qg_mod c]; dsimp only; omega⟩
    intro i hi
    rw [List.length_modify] at hi
    by_cases e : i = qDecT wd p k sc L
    · subst e; rw [qg_mod c]; dsimp only; omega
    · rw [qg_modn e]; have := h i hi; omega
  · have e1 : (qDecL wd p k sc L) 1 = L 1 ++ [(p, if k = 2 then qHome L sc else sc, k, 1, 0)] := by
      unfold qDecL; dsimp only; rw [if_neg c, qA_s]
    have et : qDecT wd p k sc L = (L 1).length := by
      have := q_find_le wd (L 1) (if k = 2 then qHome L sc else sc) (wd p)
      have h' : qDecT wd p k sc L ≤ (L 1).length := this
      omega
    rw [e1, et]
    refine ⟨?_, by rw [qg_eq]; dsimp only; omega⟩
    intro i hi
    rw [List.length_append, List.length_singleton] at hi
    by_cases e : i < (L 1).length
    · rw [qg_lt e]; have := h i e; omega
    · have : i = (L 1).length := by omega
      subst this; rw [qg_eq]; dsimp only; omega
theorem tm_par {tk wd : Nat → Nat} {sc : Nat} : ∀ (n m tok : Nat) (L : qL) (p : Nat) (L' : qL), qTm m (L 1) → m ≤ tok → qPar tk wd sc n tok L = .inr (p, L') → qTm p (L' 1) := by
  intro n
  induction n with
  | zero => intro m tok L p L' _ _ h; rw [qPar] at h; cases h
  | succ n ih =>
    intro m tok L p L' hm ht h
    rw [qPar] at h
    have d := (tm_dec (wd := wd) (p := tok) (k := 4) (sc := sc) hm).1
    split at h
    · cases h
    split at h
    · exact ih (m + 1) (tok + 2) _ p L' d (by omega) h
    · cases h
      intro i hi
      have := d i hi
      omega
theorem xv_rest {t : List Nat} {d a h tok sc : Nat} {x : qI} {r : List qI} {L : qL} {st' : List qI} {tok' sc' : Nat} {L' : qL} (hx : x.1 ≠ 10) (hl : qXv (x :: r) tok L) (e : qRestS (kT t) (wT' t) d a h r tok sc L = .inr (st', tok', sc', L')) : qXv st' tok' L' := by
  have hm : qTm tok (L 1) := hl.1
  have h4 : ∀ (st2 : List qI) (tok2 : Nat), tok ≤ tok2 → (∀ y, y ∈ r → y ∈ st2) → ∀ i, i < (L 4).length → (qg (L 4) i).2.2.1 ≤ tok2 ∧ ((qg (L 4) i).2.2.1 = 0 → ∃ x, x ∈ st2 ∧ x.1 = 10 ∧ x.2.2.1 = i) :=
    fun st2 tok2 h1 h2 => (xv_same (L' := L) (st' := st2) (tok' := tok2) hl hx rfl rfl h1 h2).2
  have sub1 : ∀ (y z : qI), z ∈ r → z ∈ y :: r := fun y z hz => List.mem_cons_of_mem _ hz
  unfold qRestS at e
  split at e
  · have dd := tm_dec (wd := wT' t) (p := tok + 1) (k := kT t tok) (sc := sc) hm
    unfold qsVar at e
    split at e
    · cases e
    split at e
    · cases e
      refine ⟨fun i hi => ?_, ?_⟩
      · have := dd.1 i hi; omega
      · rw [q_dec_4]; exact h4 _ _ (by omega) (fun y hy => hy)
    split at e
    · cases e
    · cases e
      refine ⟨?_, ?_⟩
      · have e1 : (qLetL (kT t tok) tok (qDecT (wT' t) (tok + 1) (kT t tok) sc L) (qDecL (wT' t) (tok + 1) (kT t tok) sc L)) 1 = ((qDecL (wT' t) (tok + 1) (kT t tok) sc L) 1).modify (qDecT (wT' t) (tok + 1) (kT t tok) sc L) (fun e => (e.1, e.2.1, e.2.2.1, e.2.2.2.1, e.2.2.2.2 + 1)) := by
          unfold qLetL qVald; split <;> rfl
        rw [e1]
        intro i hi
        rw [List.length_modify] at hi
        have := dd.1 i hi
        by_cases c : i = qDecT (wT' t) (tok + 1) (kT t tok) sc L
        · subst c
          rw [qg_mod hi]
          have := dd.2
          dsimp only
          omega
        · rw [qg_modn c]; omega
      · rw [q_let_4, q_dec_4]
        exact h4 _ _ (by omega) (fun y hy => List.mem_cons_of_mem _ (List.mem_cons_of_mem _ hy))
  split at e
  · unfold qsFn at e
    split at e
    · cases e
    split at e
    · cases e
    have dd := (tm_dec (wd := wT' t) (p := tok + 1) (k := 3) (sc := sc) hm).1
    cases hp : qPars (kT t) (wT' t) ((qDecL (wT' t) (tok + 1) 3 sc L) 0).length (tok + 3) (qOpen 1 (tok + 1) sc (qDecL (wT' t) (tok + 1) 3 sc L)) with
    | inl x => rw [hp] at e; cases e
    | inr y =>
      obtain ⟨p, L4⟩ := y
      have h44 := q_pars_45 (g := 4) (by decide) (by decide) hp
      have tp : qTm p (L4 1) ∧ tok + 3 ≤ p := by
        unfold qPars at hp
        split at hp
        · cases hp
          refine ⟨?_, by omega⟩
          intro i hi
          rw [q_open_at (by decide)] at hi ⊢
          have := dd i hi; omega
        · refine ⟨tm_par 4 (tok + 1) (tok + 3) _ p L4 (by rw [q_open_at (by decide)]; exact dd) (by omega) hp, ?_⟩
          by_cases cc : tok + 3 ≤ p
          · exact cc
          · have key : ∀ (n tok : Nat) (L : qL) (p : Nat) (L' : qL), qPar (kT t) (wT' t) ((qDecL (wT' t) (tok + 1) 3 sc L) 0).length n tok L = .inr (p, L') → True := fun _ _ _ _ _ _ => trivial
            have mono : ∀ (n tok sc : Nat) (L : qL) (p : Nat) (L' : qL), qPar (kT t) (wT' t) sc n tok L = .inr (p, L') → tok ≤ p := by
              intro n
              induction n with
              | zero => intro tok sc L p L' h; rw [qPar] at h; cases h
              | succ n ih =>
                intro tok sc L p L' h
                rw [qPar] at h
                split at h
                · cases h
                split at h
                · have := ih _ _ _ _ _ h; omega
                · cases h; omega
            exact mono _ _ _ _ _ _ hp
      rw [hp] at e
      unfold qsBody at e
      dsimp only at e
      split at e
      · cases e
      split at e
      · cases e
      · cases e
        refine ⟨?_, ?_⟩
        · intro i hi
          rw [qA_n _ _ (by decide)] at hi ⊢
          have := tp.1 i hi; omega
        · rw [qA_n _ _ (by decide), h44, q_open_4, q_dec_4]
          exact h4 _ _ (by omega) (fun y hy => List.mem_cons_of_mem _ (List.mem_cons_of_mem _ hy))
  split at e
  · unfold qsBlk qList at e
    cases e
    refine xv_same hl hx ?_ ?_ (by omega) (fun y hy => List.mem_cons_of_mem _ (List.mem_cons_of_mem _ hy))
    · rw [qA_n _ _ (by decide), q_emp_at (by decide), q_open_at (by decide)]
    · rw [qA_n _ _ (by decide), q_emp_4, q_open_4]
  split at e
  · unfold qsIf at e
    split at e
    · cases e
    · cases e
      refine xv_same hl hx rfl rfl (by omega) (fun y hy => List.mem_cons_of_mem _ (List.mem_cons_of_mem _ (List.mem_cons_of_mem _ ?_)))
      split
      · exact List.mem_cons_of_mem _ hy
      · exact hy
  split at e
  · unfold qsRet at e
    split at e
    · cases e
    split at e
    · cases e; exact xv_same hl hx rfl rfl (by omega) (fun y hy => hy)
    · cases e; exact xv_same hl hx rfl rfl (by omega) (fun y hy => List.mem_cons_of_mem _ (List.mem_cons_of_mem _ hy))
  split at e
  · cases e; exact xv_same hl hx (q_spa_at (by decide)) q_spa_4 (by omega) (fun y hy => hy)
  · cases e; exact xv_same hl hx rfl rfl (by omega) (fun y hy => List.mem_cons_of_mem _ (List.mem_cons_of_mem _ hy))
theorem xv_step {t : List Nat} {x : qI} {r st' : List qI} {tok sc tok' sc' : Nat} {L L' : qL} (h : qXv (x :: r) tok L) (ht2 : x.1 = 10 → 2 ≤ tok) (hw : 1 ≤ x.1 ∧ x.1 ≤ 10) (e : qStep (kT t) (wT' t) (dT t) (x :: r, tok, sc, L) = .inr (st', tok', sc', L')) : qXv st' tok' L' := by
  obtain ⟨w, d, a, b⟩ := x
  have hw : 1 ≤ w ∧ w ≤ 10 := hw
  unfold qStep at e
  dsimp only at e
  by_cases w1 : w = 1
  · rw [if_pos w1] at e
    subst w1
    unfold qLst at e
    split at e
    · cases e; exact xv_same h (by show 1 ≠ 10; decide) rfl rfl (by omega) (fun y hy => List.mem_cons_of_mem _ (List.mem_cons_of_mem _ hy))
    · cases e; exact xv_same h (by show 1 ≠ 10; decide) rfl rfl (by split <;> omega) (fun y hy => hy)
  rw [if_neg w1] at e
  by_cases w2 : w = 2
  · rw [if_pos w2] at e
    subst w2
    rw [qStat_rest] at e
    split at e
    · cases e
    split at e
    · unfold qsExc at e
      split at e
      · cases e
        refine ⟨fun i hi => ?_, ?_⟩
        · have := h.1 i hi; exact ⟨Nat.le_trans this.1 (by omega), this.2⟩
        · intro i hi
          rw [qA_s] at hi ⊢
          rw [List.length_append, List.length_singleton] at hi
          by_cases c : i < (L 4).length
          · rw [qg_lt c]
            have := h.2 i c
            refine ⟨by omega, fun e => ?_⟩
            obtain ⟨y, hy, h1, h2⟩ := this.2 e
            rcases List.mem_cons.mp hy with hy | hy
            · subst hy; exact absurd (show 2 = 10 from h1) (by decide)
            · exact ⟨y, List.mem_cons_of_mem _ (List.mem_cons_of_mem _ hy), h1, h2⟩
          · have : i = (L 4).length := by omega
            subst this
            rw [qg_eq]
            exact ⟨Nat.zero_le _, fun _ => ⟨_, List.mem_cons_of_mem _ (List.mem_cons_self ..), rfl, rfl⟩⟩
      · cases e
    · have hn : qXv ((2, d, a, b) :: r) tok (qNote a tok (kT t tok) L) := by
        unfold qXv
        rw [q_note_at (by decide) (by decide), q_note_4]; exact h
      exact xv_rest (by show 2 ≠ 10; decide) hn e
  rw [if_neg w2] at e
  by_cases w3 : w = 3
  · rw [if_pos w3] at e
    subst w3
    unfold qOth at e
    split at e
    · cases e; exact xv_same h (by show 3 ≠ 10; decide) rfl rfl (by omega) (fun y hy => List.mem_cons_of_mem _ hy)
    · cases e; exact xv_same h (by show 3 ≠ 10; decide) rfl rfl (by omega) (fun y hy => hy)
  rw [if_neg w3] at e
  by_cases w4 : w = 4
  · rw [if_pos w4] at e
    subst w4
    unfold qOne at e
    split at e
    · cases e; exact xv_same h (by show 4 ≠ 10; decide) rfl rfl (by omega) (fun y hy => hy)
    · cases e
  rw [if_neg w4] at e
  by_cases w5 : w = 5
  · rw [if_pos w5] at e
    subst w5
    unfold qVal at e
    split at e
    · cases e
    split at e
    · cases e; exact xv_same h (by show 5 ≠ 10; decide) rfl rfl (by omega) (fun y hy => List.mem_cons_of_mem _ hy)
    · cases e; exact xv_same h (by show 5 ≠ 10; decide) rfl rfl (by omega) (fun y hy => List.mem_cons_of_mem _ (List.mem_cons_of_mem _ hy))
  rw [if_neg w5] at e
  by_cases w6 : w = 6
  · rw [if_pos w6] at e
    subst w6
    unfold qMore at e
    split at e
    · cases e
      exact xv_same h (by show 6 ≠ 10; decide) (by split <;> rfl) (by split <;> rfl) (by omega) (fun y hy => List.mem_cons_of_mem _ (List.mem_cons_of_mem _ hy))
    · cases e; exact xv_same h (by show 6 ≠ 10; decide) rfl rfl (by omega) (fun y hy => hy)
  rw [if_neg w6] at e
  by_cases w7 : w = 7
  · rw [if_pos w7] at e
    subst w7
    unfold qPart at e
    repeat' split at e
    all_goals first
      | (cases e; done)
      | (cases e; exact xv_same h (by show 7 ≠ 10; decide) rfl rfl (by omega) (fun y hy => hy))
      | (cases e; exact xv_same h (by show 7 ≠ 10; decide) rfl rfl (by omega) (fun y hy => List.mem_cons_of_mem _ hy))
      | (cases e; exact xv_same h (by show 7 ≠ 10; decide) rfl rfl (by omega) (fun y hy => List.mem_cons_of_mem _ (List.mem_cons_of_mem _ hy)))
  rw [if_neg w7] at e
  by_cases w8 : w = 8
  · rw [if_pos w8] at e
    subst w8
    unfold qRest at e
    split at e
    · cases e; exact xv_same h (by show 8 ≠ 10; decide) rfl rfl (by omega) (fun y hy => List.mem_cons_of_mem _ (List.mem_cons_of_mem _ hy))
    split at e
    · cases e; exact xv_same h (by show 8 ≠ 10; decide) rfl rfl (by omega) (fun y hy => hy)
    · cases e
  rw [if_neg w8] at e
  by_cases w9 : w = 9
  · rw [if_pos w9] at e
    subst w9
    cases e
    exact xv_same h (by show 9 ≠ 10; decide) rfl rfl (by omega) (fun y hy => hy)
  · rw [if_neg w9] at e
    have w10 : w = 10 := by omega
    subst w10
    have ht2 := ht2 rfl
    cases e
    refine ⟨h.1, ?_⟩
    intro i hi
    rw [qM_s] at hi ⊢
    rw [List.length_modify] at hi
    by_cases c : i = a
    · subst c
      rw [qg_mod hi]
      exact ⟨Nat.le_refl _, fun e => by dsimp only at e; omega⟩
    · rw [qg_modn c]
      have := h.2 i hi
      refine ⟨this.1, fun e => ?_⟩
      obtain ⟨y, hy, h1, h2⟩ := this.2 e
      rcases List.mem_cons.mp hy with hy | hy
      · subst hy; exact absurd (show a = i from h2).symm c
      · exact ⟨y, hy, h1, h2⟩
theorem w_10 {n4 n5 h : Nat} {x : qI} (hi : qItem n4 n5 h x) : 1 ≤ x.1 ∧ x.1 ≤ 10 := by
  have := hi.2.2.2
  obtain ⟨w, d, a, c⟩ := x
  have this : qIt n4 n5 h w d a c := this
  unfold qIt at this
  split at this <;> first | (constructor <;> (show _ ≤ _; omega)) | exact absurd this id
/-- all that holds of a config on the way -/
def qAll (t : List Nat) (c : qC) : Prop := gW t c ∧ qLv c.1 c.2.2.1 c.2.2.2 ∧ qXv c.1 c.2.1 c.2.2.2
theorem all_step {t : List Nat} {c c' : qC} (h : qAll t c) (e : qStep (kT t) (wT' t) (dT t) c = .inr c') : qAll t c' := by
  obtain ⟨st, tok, sc, L⟩ := c
  obtain ⟨st', tok', sc', L'⟩ := c'
  obtain ⟨h1, h2, h3⟩ := h
  cases st with
  | nil => cases e; exact ⟨h1, h2, h3⟩
  | cons x r =>
    refine ⟨q_well_step (g_T t) h1 e, lv_step h1.2.1.2.2.1 h1.2.1.2.1 h2 e, xv_step h3 ?_ (w_10 h1.2.2.1) e⟩
    intro hx
    obtain ⟨w, d, a, c⟩ := x
    have hx : w = 10 := hx
    subst hx
    have ha : a < (L 4).length := h1.2.2.1.2.2.2
    have k2 : 2 ≤ (qg (L 4) a).2.1 := (h1.2.1.2.2.2.2.2.2.2.2 _ (qg_mem ha)).2
    have hk : (qg (L 4) a).2.1 ≤ tok := by
      have := (h1.2.1.1 4).2 _ (qg_mem ha)
      have e : qBd ((10, d, a, c) :: r) tok 4 = tok := rfl
      rw [e] at this
      exact this
    show 2 ≤ tok
    omega
theorem all_go {t : List Nat} : ∀ (m : Nat) (c c' : qC), qAll t c → qGo (kT t) (wT' t) (dT t) m c = .inr c' → qAll t c' := by
  intro m
  induction m with
  | zero => intro c c' h e; rw [qGo] at e; cases e; exact h
  | succ m ih =>
    intro c c' h e
    rw [qGo] at e
    cases hs : qStep (kT t) (wT' t) (dT t) c with
    | inl x => rw [hs] at e; cases e
    | inr c2 => rw [hs] at e; exact ih c2 c' (all_step h hs) e
theorem all_0 {t : List Nat} : qAll t q0 := by
  refine ⟨q_well_0, lv_0, ?_, ?_⟩
  · intro i hi; exact absurd (show i < 0 from hi) (by omega)
  · intro i hi; exact absurd (show i < 0 from hi) (by omega)
/-- all that holds of a PROGRAM's lists -/
theorem q_prog {t : List Nat} {tok sc : Nat} {L : qL} (h : qRun (kT t) (wT' t) (dT t) = .inr ([], tok, sc, L)) : tok ≤ nT t ∧ qOk (kT t) (fun _ => tok) sc L ∧ qFin t L ∧ (∀ i, i < (L 1).length → (qg (L 1) i).2.2.2.1 ≤ 60 ∧ (qg (L 1) i).2.2.2.2 ≤ (qg (L 1) i).2.2.2.1) ∧ (∀ i, i < (L 4).length → (qg (L 4) i).2.2.1 ≤ tok ∧ (qg (L 4) i).2.2.1 ≠ 0) := by
  obtain ⟨h1, h2, h3⟩ := all_go 600 _ _ all_0 h
  have hT := nT_le t
  have ht := h1.tok
  have ok : qOk (kT t) (fun _ => tok) sc L := h1.2.1.mono (by
    intro f; unfold qBd; show (if f = 15 then tok + 0 else tok) ≤ tok; split <;> omega)
  have hl := h1.len
  refine ⟨ht.1, ok, ⟨ok.2.2.1, by omega, by omega, by omega, ?_, ?_⟩, ?_, ?_⟩
  · intro i hi; have := ok.2.2.2.1 i hi; exact ⟨this.1, this.2.1, this.2.2.1⟩
  · intro i hi; exact ok.2.2.2.2.1 _ (qg_mem hi)
  · intro i hi; have := h3.1 i hi; exact ⟨Nat.le_trans this.1 ht.2, this.2⟩
  · intro i hi
    have := h3.2 i hi
    refine ⟨this.1, fun e => ?_⟩
    obtain ⟨y, hy, _⟩ := this.2 e
    exact absurd hy (by simp)
