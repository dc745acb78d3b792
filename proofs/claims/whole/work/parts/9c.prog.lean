/-! PURE: a mended PROGRAM is a PROGRAM -/
theorem suf_step {tk wd dg : Nat → Nat} {x : qI} {r st' : List qI} {tok sc tok' sc' : Nat} {L L' : qL} (e : qStep tk wd dg (x :: r, tok, sc, L) = .inr (st', tok', sc', L')) : (∃ pre, st' = pre ++ r) ∧ (x.1 = 1 → st' = r → tk tok = x.2.2.1) := by
  obtain ⟨w, d, a, b⟩ := x
  unfold qStep at e
  dsimp only at e ⊢
  split at e
  · unfold qLst at e
    split at e
    · cases e
      refine ⟨⟨[_, _], rfl⟩, ?_⟩
      intro _ h
      have := congrArg List.length h
      simp at this
      omega
    · rename_i c
      cases e
      exact ⟨⟨[], rfl⟩, fun _ _ => by omega⟩
  rename_i w1
  refine ⟨?_, fun h => absurd h w1⟩
  split at e
  · rw [qStat_rest] at e
    split at e
    · cases e
    split at e
    · unfold qsExc at e
      split at e
      · cases e; exact ⟨[_, _], rfl⟩
      · cases e
    generalize qNote a tok (tk tok) L = L at *
    unfold qRestS at e
    split at e
    · unfold qsVar at e
      split at e
      · cases e
      split at e
      · cases e; exact ⟨[], rfl⟩
      split at e
      · cases e
      · cases e; exact ⟨[_, _], rfl⟩
    split at e
    · unfold qsFn at e
      split at e
      · cases e
      split at e
      · cases e
      cases hp : qPars tk wd ((qDecL wd (tok + 1) 3 sc L) 0).length (tok + 3) (qOpen 1 (tok + 1) sc (qDecL wd (tok + 1) 3 sc L)) with
      | inl x => rw [hp] at e; cases e
      | inr y =>
        rw [hp] at e
        unfold qsBody at e
        dsimp only at e
        split at e
        · cases e
        split at e
        · cases e
        · unfold qList at e
          cases e
          exact ⟨[_, _], rfl⟩
    split at e
    · unfold qsBlk qList at e
      cases e
      exact ⟨[_, _], rfl⟩
    split at e
    · unfold qsIf at e
      split at e
      · cases e
      · cases e
        split
        · exact ⟨[_, _, _, _], rfl⟩
        · exact ⟨[_, _, _], rfl⟩
    split at e
    · unfold qsRet at e
      split at e
      · cases e
      split at e
      · cases e; exact ⟨[], rfl⟩
      · cases e; exact ⟨[_, _], rfl⟩
    split at e
    · cases e; exact ⟨[], rfl⟩
    · cases e; exact ⟨[_, _], rfl⟩
  split at e
  · unfold qOth at e
    split at e
    · cases e; exact ⟨[_], rfl⟩
    · cases e; exact ⟨[], rfl⟩
  split at e
  · unfold qOne at e
    split at e
    · cases e; exact ⟨[], rfl⟩
    · cases e
  split at e
  · unfold qVal at e
    split at e
    · cases e
    split at e
    · cases e; exact ⟨[_], rfl⟩
    · cases e; exact ⟨[_, _], rfl⟩
  split at e
  · unfold qMore at e
    split at e
    · cases e; exact ⟨[_, _], rfl⟩
    · cases e; exact ⟨[], rfl⟩
  split at e
  · unfold qPart at e
    repeat' split at e
    all_goals first
      | (cases e; done)
      | (cases e; exact ⟨[], rfl⟩)
      | (cases e; exact ⟨[_], rfl⟩)
      | (cases e; exact ⟨[_, _], rfl⟩)
  split at e
  · unfold qRest at e
    split at e
    · cases e; exact ⟨[_, _], rfl⟩
    split at e
    · cases e; exact ⟨[], rfl⟩
    · cases e
  split at e
  · cases e; exact ⟨[], rfl⟩
  · cases e; exact ⟨[], rfl⟩
theorem low_step {tk wd dg : Nat → Nat} {pre st' : List qI} {d b tok sc tok' sc' : Nat} {L L' : qL} (e : qStep tk wd dg (pre ++ [(1, d, 26, b)], tok, sc, L) = .inr (st', tok', sc', L')) : (∃ pre', st' = pre' ++ [(1, d, 26, b)]) ∨ (st' = [] ∧ tk tok = 26) := by
  cases pre with
  | nil =>
    have e' : qLst tk d 26 b [] tok sc L = .inr (st', tok', sc', L') := e
    unfold qLst at e'
    split at e'
    · cases e'; exact .inl ⟨[_], rfl⟩
    · rename_i c
      cases e'
      exact .inr ⟨rfl, by omega⟩
  | cons x r =>
    obtain ⟨⟨p, hp⟩, _⟩ := suf_step (x := x) (r := r ++ [(1, d, 26, b)]) e
    exact .inl ⟨p ++ r, by rw [hp, List.append_assoc]⟩
theorem acc_26 {t : List Nat} {F : qL} : ∀ (m : Nat) (pre : List qI) (d b tok sc : Nat) (L : qL), qAcc t m (pre ++ [(1, d, 26, b)], tok, sc, L) F → ∃ p, kT t p = 26 := by
  intro m
  induction m with
  | zero =>
    intro pre d b tok sc L h
    obtain ⟨tf, sf, h⟩ := h
    rw [qGo] at h
    injection h with h
    injection h with h1 h2
    have := congrArg List.length h1
    simp at this
  | succ m ih =>
    intro pre d b tok sc L h
    obtain ⟨tf, sf, h⟩ := h
    rw [qGo] at h
    cases hs : qStep (kT t) (wT' t) (dT t) (pre ++ [(1, d, 26, b)], tok, sc, L) with
    | inl e => rw [hs] at h; cases h
    | inr c1 =>
      rw [hs] at h
      obtain ⟨st', tok', sc', L'⟩ := c1
      rcases low_step hs with ⟨p, hp⟩ | ⟨_, hk⟩
      · subst hp
        exact ih p d b tok' sc' L' ⟨tf, sf, h⟩
      · exact ⟨tok, hk⟩
theorem pTok_26 {t : List Nat} {p : Nat} (h : (pTok t p).1 = 26) : t.length ≤ p := by
  by_cases c : t.length ≤ p
  · exact c
  · exfalso
    unfold pTok at h
    rw [if_neg c] at h
    split at h
    · have := pKwOf_lt (pOct t p (pScan pWordC t p))
      have h : pKwOf (pOct t p (pScan pWordC t p)) = 26 := h
      omega
    split at h
    · cases h
    split at h
    · have h : (if p < pTextEnd t p then 25 else 27) = 26 := h
      split at h <;> cases h
    · exact (pSign_end (t := t) (p := p) (by omega)).2.2.2.1 h
theorem lexN_26 {t : List Nat} : ∀ (m p i : Nat), p ≤ t.length → pK (pLexN t m p) i = 26 → pS (pLexN t m p) i = t.length ∧ i + 1 = (pLexN t m p).length := by
  intro m
  induction m with
  | zero =>
    intro p i hp h
    unfold pLexN at h ⊢
    cases i with
    | zero =>
      have h : (if p < t.length then 27 else 26) = 26 := h
      refine ⟨?_, rfl⟩
      show p = t.length
      split at h
      · cases h
      · omega
    | succ i =>
      have h : (27 : Nat) = 26 := h
      cases h
  | succ m ih =>
    intro p i hp h
    rw [pLexN] at h ⊢
    have ok := pTok_ok hp
    by_cases c : pClosing (pTok t p).1 = true
    · rw [if_pos c] at h ⊢
      cases i with
      | zero =>
        have h : (pTok t p).1 = 26 := h
        have := pTok_26 h
        exact ⟨by show p = t.length; omega, rfl⟩
      | succ i =>
        have h : (27 : Nat) = 26 := h
        cases h
    · rw [if_neg c] at h ⊢
      cases i with
      | zero =>
        have h : (pTok t p).1 = 26 := h
        exact absurd (by rw [h]; rfl) c
      | succ i =>
        rw [(pK_cons).1] at h
        rw [(pK_cons).2.1, List.length_cons]
        have := ih (pScan pBlank t (pTok t p).2) i (pScan_le ok.2.1) h
        exact ⟨this.1, by omega⟩
/-- a PROGRAM has no wrong end -/
theorem prog_end {t : List Nat} {tok sc : Nat} {L : qL} (h : qRun (kT t) (wT' t) (dT t) = .inr ([], tok, sc, L)) : kT t (nT t) = 26 ∧ pS (pLex t) (nT t) = t.length := by
  obtain ⟨p, hp⟩ := acc_26 (t := t) (F := L) 600 [] 1 0 0 0 _ ⟨tok, sc, h⟩
  have := lexN_26 60 (pScan pBlank t 0) p (pScan_le (Nat.zero_le _)) hp
  have l := nT_len t
  have e : p = nT t := by
    have h2 : p + 1 = (pLex t).length := this.2
    omega
  subst e
  exact ⟨hp, this.1⟩
/-! which marks may be mended -/
theorem mk_6 {t : List Nat} {tok sc p : Nat} {L : qL} (ht : t.length ≤ 160) (h : qRun (kT t) (wT' t) (dT t) = .inr ([], tok, sc, L)) : (sMk (qEnd t L) (10 * p + 6) = true → ∃ e, e ∈ L 16 ∧ e.1 = p) ∧ (sMk (qEnd t L) (10 * p + 7) = true → ∃ e, e ∈ L 6 ∧ e.1 = p) ∧ (sMk (qEnd t L) (10 * p + 8) = true → ∃ e, e ∈ L 18 ∧ e.1 = p) ∧ (sMk (qEnd t L) (10 * p + 9) = true → ∃ e, e ∈ L 19 ∧ e.1 = p) := by
  rw [← dAll_eq ht h]
  have a4 : ∀ x, 6 ≤ x % 10 → dAll4 t L x = true → False := by
    intro x hx m
    have m := (dK_mem (by omega) m).resolve_right (fun ⟨_, _, _, m, _⟩ => by omega)
    have m := (dK_mem (by omega) m).resolve_right (fun ⟨_, _, _, m, _⟩ => by omega)
    have m := (dT2_mem m).resolve_right (fun ⟨_, _, _, m⟩ => by omega)
    rcases dU_mem m with m | ⟨u, u1, u2, m⟩
    · cases m
    · omega
  refine ⟨?_, ?_, ?_, ?_⟩
  · intro m
    have m := (dK_mem (by omega) m).resolve_right (fun ⟨_, _, _, m, _⟩ => by omega)
    have m := (dK_mem (by omega) m).resolve_right (fun ⟨_, _, _, m, _⟩ => by omega)
    have m := (dK_mem (by omega) m).resolve_right (fun ⟨_, _, _, m, _⟩ => by omega)
    rcases dK_mem (by omega) m with m | ⟨u, u1, u2, _⟩
    · exact absurd m (fun m => a4 _ (by omega) m)
    · exact ⟨_, qg_mem u1, by omega⟩
  · intro m
    have m := (dK_mem (by omega) m).resolve_right (fun ⟨_, _, _, m, _⟩ => by omega)
    have m := (dK_mem (by omega) m).resolve_right (fun ⟨_, _, _, m, _⟩ => by omega)
    rcases dK_mem (by omega) m with m | ⟨u, u1, u2, _⟩
    · have m := (dK_mem (by omega) m).resolve_right (fun ⟨_, _, _, m, _⟩ => by omega)
      exact absurd m (fun m => a4 _ (by omega) m)
    · exact ⟨_, qg_mem u1, by omega⟩
  · intro m
    have m := (dK_mem (by omega) m).resolve_right (fun ⟨_, _, _, m, _⟩ => by omega)
    rcases dK_mem (by omega) m with m | ⟨u, u1, u2, _⟩
    · have m := (dK_mem (by omega) m).resolve_right (fun ⟨_, _, _, m, _⟩ => by omega)
      have m := (dK_mem (by omega) m).resolve_right (fun ⟨_, _, _, m, _⟩ => by omega)
      exact absurd m (fun m => a4 _ (by omega) m)
    · exact ⟨_, qg_mem u1, by omega⟩
  · intro m
    rcases dK_mem (by omega) m with m | ⟨u, u1, u2, _⟩
    · have m := (dK_mem (by omega) m).resolve_right (fun ⟨_, _, _, m, _⟩ => by omega)
      have m := (dK_mem (by omega) m).resolve_right (fun ⟨_, _, _, m, _⟩ => by omega)
      have m := (dK_mem (by omega) m).resolve_right (fun ⟨_, _, _, m, _⟩ => by omega)
      exact absurd m (fun m => a4 _ (by omega) m)
    · exact ⟨_, qg_mem u1, by omega⟩
def loB (l : List qE) (p : Nat) : Bool := l.any (fun e => e.1 == p && e.2.1 == 1)
theorem loB_iff {l : List qE} {p : Nat} : loB l p = true ↔ ∃ e, e ∈ l ∧ e.1 = p ∧ e.2.1 = 1 := by
  unfold loB; simp
/-- what is mended at TOKEN p -/
def mdF (on : Nat → Bool) (gv : List (List Nat)) (t : List Nat) (L : qL) (p : Nat) : Nat := sMd (sP on gv t (qEnd t L) (L 4)) (loB (L 18)) p
theorem sP_mk {on : Nat → Bool} {gv : List (List Nat)} {t : List Nat} {K : qL} {l : List qE} {c : Nat} (h : sP on gv t K l c = true) : sMk K c = true := by
  unfold sP at h
  exact (Bool.and_eq_true_iff.mp h).1
theorem mdF_of {on : Nat → Bool} {gv : List (List Nat)} {t : List Nat} {L : qL} {p : Nat} : (mdF on gv t L p = 6 → sMk (qEnd t L) (10 * p + 6) = true) ∧ (mdF on gv t L p = 7 → sMk (qEnd t L) (10 * p + 7) = true) ∧ (mdF on gv t L p = 8 → sMk (qEnd t L) (10 * p + 8) = true ∧ loB (L 18) p = true) ∧ (mdF on gv t L p = 9 → sMk (qEnd t L) (10 * p + 9) = true) := by
  unfold mdF sMd
  split
  · rename_i h; exact ⟨fun _ => sP_mk h, fun h => by omega, fun h => by omega, fun h => by omega⟩
  split
  · rename_i h; exact ⟨fun h => by omega, fun _ => sP_mk h, fun h => by omega, fun h => by omega⟩
  split
  · rename_i h
    have h := Bool.and_eq_true_iff.mp h
    exact ⟨fun h => by omega, fun h => by omega, fun _ => ⟨sP_mk h.1, h.2⟩, fun h => by omega⟩
  split
  · rename_i h; exact ⟨fun h => by omega, fun h => by omega, fun h => by omega, fun _ => sP_mk h⟩
  · exact ⟨fun h => by omega, fun h => by omega, fun h => by omega, fun h => by omega⟩
/-- all that the mending needs -/
theorem mdF_ok {on : Nat → Bool} {gv : List (List Nat)} {t : List Nat} {tok sc : Nat} {L : qL} (ht : t.length ≤ 160) (h : qRun (kT t) (wT' t) (dT t) = .inr ([], tok, sc, L)) : mOk t (mdF on gv t L) ∧ (∀ p, mDr (mdF on gv t L) p = true → mrk L p) ∧ (∀ p, mdF on gv t L p = 7 → mrk6 L p) ∧ (∀ p, mDr (mdF on gv t L) p = true → ends (kT t) p) := by
  have hk := (q_pg ht h).2.2.2.2.2.1
  have mm : ∀ p, mDr (mdF on gv t L) p = true → mrk L p := by
    intro p hd
    have o := mdF_of (on := on) (gv := gv) (t := t) (L := L) (p := p)
    unfold mDr at hd
    simp at hd
    rcases hd with hd | hd
    · obtain ⟨e, e1, e2, e3⟩ := loB_iff.mp (o.2.2.1 hd).2
      exact .inr ⟨e, e1, e2, e3⟩
    · obtain ⟨e, e1, e2⟩ := (mk_6 (p := p) ht h).2.2.2 (o.2.2.2 hd)
      exact .inl ⟨e, e1, e2⟩
  refine ⟨?_, mm, ?_, fun p hp => run_ends' h (mm p hp)⟩
  · intro p
    have o := mdF_of (on := on) (gv := gv) (t := t) (L := L) (p := p)
    have m := mk_6 (p := p) ht h
    refine ⟨fun c => ?_, fun c => ?_, fun c => ?_, fun c => ?_⟩
    · obtain ⟨e, e1, e2⟩ := m.1 (o.1 c)
      rw [← e2]; exact hk.2.2.1 e e1
    · obtain ⟨e, e1, e2⟩ := m.2.1 (o.2.1 c)
      rw [← e2]; exact hk.1 e e1
    · obtain ⟨e, e1, e2⟩ := m.2.2.1 (o.2.2.1 c).1
      have := hk.2.2.2.1 e e1
      rw [← e2]; exact ⟨this.1, this.2.1⟩
    · obtain ⟨e, e1, e2⟩ := m.2.2.2 (o.2.2.2 c)
      rw [← e2]; exact hk.2.2.2.2 e e1
  · intro p hp
    have o := mdF_of (on := on) (gv := gv) (t := t) (L := L) (p := p)
    exact (mk_6 (p := p) ht h).2.1 (o.2.1 hp)
/-- A MENDED PROGRAM IS A PROGRAM -/
theorem mend_prog {on : Nat → Bool} {gv : List (List Nat)} {t : List Nat} {tok sc : Nat} {L : qL} (ht : t.length ≤ 160) (hc : ∀ i, pc t i < 256) (h : qRun (kT t) (wT' t) (dT t) = .inr ([], tok, sc, L)) : ∃ tok' sc' L', qRun (kT (mTx t (mdF on gv t L))) (wT' (mTx t (mdF on gv t L))) (dT (mTx t (mdF on gv t L))) = .inr ([], tok', sc', L') := by
  obtain ⟨m1, m2, m3, m4⟩ := mdF_ok (on := on) (gv := gv) ht h
  obtain ⟨e1, e2⟩ := prog_end h
  exact sim_all h (mRl_of hc m1 m4 e2 m2 m3 e1)
