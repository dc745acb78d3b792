theorem qA_at (f g : Nat) (x : qE) (L : qL) : qA f x L g = if g = f then L g ++ [x] else L g := rfl
theorem qM_at (f g i : Nat) (u : qE → qE) (L : qL) : qM f i u L g = if g = f then (L g).modify i u else L g := rfl
theorem q_note_at {a tok k g : Nat} {L : qL} (h : g ≠ 5) (h2 : g ≠ 15) : qNote a tok k L g = L g := by
  unfold qNote; dsimp only
  split
  · rfl
  · split <;> simp [qA_at, qM_at, h, h2]
theorem q_dec_at {wd : Nat → Nat} {tok sort sc g : Nat} {L : qL} (h : g ≠ 1) (h2 : g ≠ 14) : qDecL wd tok sort sc L g = L g := by
  unfold qDecL; dsimp only
  split
  · split <;> simp [qA_at, qM_at, h, h2]
  · simp [qA_at, h]
theorem q_let_at {k tok t g : Nat} {L : qL} (h : g ≠ 1) (h2 : g ≠ 6) : qLetL k tok t L g = L g := by
  unfold qLetL qVald; split <;> simp [qA_at, qM_at, h, h2]
theorem q_open_at {fn p sc g : Nat} {L : qL} (h : g ≠ 0) : qOpen fn p sc L g = L g := by
  unfold qOpen; simp [qA_at, h]
theorem q_emp_at {tk : Nat → Nat} {a b tok g : Nat} {L : qL} (h : g ≠ 18) : qEmpL tk a b tok L g = L g := by
  unfold qEmpL; split <;> simp [qA_at, h]
theorem q_spa_at {a b tok g : Nat} {L : qL} (h : g ≠ 19) : qSpaL a b tok L g = L g := by
  unfold qSpaL; split <;> simp [qA_at, h]
def qSc (l : List qE) : Prop := 0 < l.length ∧ qg l 0 = (0, 1, 0, 0, 0) ∧ ∀ i, 0 < i → i < l.length → (qg l i).1 < i ∧ (qg l i).2.1 ≤ 1 ∧ (qg l i).2.2.1 = (if (qg l i).2.1 = 1 then i else (qg l (qg l i).1).2.2.1) ∧ (qg l i).2.2.2.1 = (qg l (qg l i).1).2.2.2.1 + 1
def qTh (tk : Nat → Nat) (n : Nat) (l : List qE) : Prop := ∀ i, i < l.length → (qg l i).2.1 < n ∧ tk (qg l i).1 = 23 ∧ (qg l i).2.2.1 ≤ 4 ∧ 1 ≤ (qg l i).2.2.2.1
def qUs (tk : Nat → Nat) (n : Nat) (l : List qE) : Prop := ∀ e, e ∈ l → e.2.1 < n ∧ tk e.1 = 23 ∧ e.2.2.1 ≤ 1
def qFx (l l6 : List qE) : Prop := (∀ e, e ∈ l6 → e.2.1 < l.length ∧ 1 ≤ (qg l e.2.1).2.2.2.2 ∧ ((qg l e.2.1).2.2.2.1 = 1 → (qg l e.2.1).1 = e.1 + 1 ∧ (qg l e.2.1).2.2.1 = 0)) ∧
  (∀ i, i < l.length → (qg l i).2.2.1 = 0 → (qg l i).2.2.2.1 = 1 → 1 ≤ (qg l i).2.2.2.2 → ∃ e, e ∈ l6 ∧ e.2.1 = i ∧ (qg l i).1 = e.1 + 1)
def qAg (l l14 : List qE) : Prop := ∀ x, x ∈ l14 → ∀ i, i < l.length → x.1 ≠ (qg l i).1
def qMk (tk : Nat → Nat) (l6 l14 l16 l18 l19 : List qE) : Prop := (∀ e, e ∈ l6 → tk e.1 = 0) ∧ (∀ e, e ∈ l14 → tk e.1 = 23) ∧ (∀ e, e ∈ l16 → tk e.1 = 9) ∧ (∀ e, e ∈ l18 → tk e.1 = 18 ∧ tk (e.1 + 1) = 19 ∧ e.2.1 ≤ 1) ∧ (∀ e, e ∈ l19 → tk e.1 = 20)
def qEx (l : List qE) : Prop := ∀ e, e ∈ l → e.1 ≤ 9 ∧ 2 ≤ e.2.1
def qOk (tk : Nat → Nat) (m : Nat → Nat) (sc : Nat) (L : qL) : Prop :=
  qIv m L ∧ sc < (L 0).length ∧ qSc (L 0) ∧ qTh tk (L 0).length (L 1) ∧ qUs tk (L 0).length (L 2) ∧ qFx (L 1) (L 6) ∧ qAg (L 1) (L 14) ∧ qMk tk (L 6) (L 14) (L 16) (L 18) (L 19) ∧ qEx (L 4)
theorem qOk.mono {tk m m' : Nat → Nat} {sc : Nat} {L : qL} (h : qOk tk m sc L) (hm : ∀ f, m f ≤ m' f) : qOk tk m' sc L := ⟨h.1.mono hm, h.2⟩
theorem ok_note {tk m : Nat → Nat} {L : qL} {a tok k sc : Nat} (h : qOk tk m sc L) (h1 : m 15 ≤ tok) : qOk tk (fun g => if g = 15 then tok + 1 else m g) sc (qNote a tok k L) := by
  obtain ⟨i1, i2⟩ := h
  refine ⟨q_note i1 h1, ?_⟩
  simp only [q_note_at (L := L) (g := 0) (by decide) (by decide), q_note_at (L := L) (g := 1) (by decide) (by decide), q_note_at (L := L) (g := 2) (by decide) (by decide), q_note_at (L := L) (g := 6) (by decide) (by decide), q_note_at (L := L) (g := 14) (by decide) (by decide), q_note_at (L := L) (g := 16) (by decide) (by decide), q_note_at (L := L) (g := 18) (by decide) (by decide), q_note_at (L := L) (g := 19) (by decide) (by decide), q_note_at (L := L) (g := 4) (by decide) (by decide)]
  exact i2
theorem q_find_le (wd : Nat → Nat) (l : List qE) (s w : Nat) : qFind wd l s w ≤ l.length := List.findIdx_le_length
theorem qSc.home {l : List qE} (h : qSc l) : ∀ i, i < l.length → (qg l i).2.2.1 ≤ i := by
  intro i
  induction i using Nat.strongRecOn with
  | _ i ih =>
    intro hi
    by_cases e : i = 0
    · subst e; rw [h.2.1]; exact Nat.le_refl _
    · obtain ⟨h1, _, h3, _⟩ := h.2.2 i (by omega) hi
      rw [h3]
      split
      · omega
      · have := ih _ h1 (by omega); omega
theorem q_iv_lt {m : Nat → Nat} {L : qL} {i : Nat} (h : qIv m L) (hi : i < (L 1).length) : (qg (L 1) i).1 < m 1 := (h 1).2 _ (qg_mem hi)
theorem q_iv_14 {m : Nat → Nat} {L : qL} {x : qE} (h : qIv m L) (hx : x ∈ L 14) : x.1 < m 14 := (h 14).2 _ hx
/-- what a declaration has made -/
def qDd (wd : Nat → Nat) (tok sort sc : Nat) (L : qL) : Prop :=
  qDecT wd tok sort sc L < ((qDecL wd tok sort sc L) 1).length ∧ ((qg ((qDecL wd tok sort sc L) 1) (qDecT wd tok sort sc L)).2.2.2.1 = 1 → (qg ((qDecL wd tok sort sc L) 1) (qDecT wd tok sort sc L)).1 = tok ∧ (qg ((qDecL wd tok sort sc L) 1) (qDecT wd tok sort sc L)).2.2.1 = sort)
theorem ok_dec {tk m : Nat → Nat} {L : qL} {wd : Nat → Nat} {tok sort sc : Nat} (h : qOk tk m sc L) (h1 : m 1 ≤ tok) (h2 : m 14 ≤ tok) (h3 : tk tok = 23) (h4 : sort ≤ 4) : qOk tk (fun g => if g = 1 ∨ g = 14 then tok + 1 else m g) sc (qDecL wd tok sort sc L) ∧ qDd wd tok sort sc L := by
  have hI := q_dec (wd := wd) (sort := sort) (sc := sc) h.1 h1 h2
  obtain ⟨i1, hs, i2, i3, i4, i5, i6, i7, i8⟩ := h
  unfold qOk
  simp only [q_dec_at (L := L) (g := 0) (by decide) (by decide), q_dec_at (L := L) (g := 2) (by decide) (by decide), q_dec_at (L := L) (g := 6) (by decide) (by decide), q_dec_at (L := L) (g := 16) (by decide) (by decide), q_dec_at (L := L) (g := 18) (by decide) (by decide), q_dec_at (L := L) (g := 19) (by decide) (by decide), q_dec_at (L := L) (g := 4) (by decide) (by decide)]
  unfold qDd
  by_cases ht : qDecT wd tok sort sc L < (L 1).length
  · have e1 : (qDecL wd tok sort sc L) 1 = (L 1).modify (qDecT wd tok sort sc L) (fun e => (e.1, e.2.1, e.2.2.1, e.2.2.2.1 + 1, e.2.2.2.2)) := by
      unfold qDecL; dsimp only; rw [if_pos ht]; split <;> rfl
    have e14 : ∀ x, x ∈ (qDecL wd tok sort sc L) 14 → x ∈ L 14 ∨ x.1 = tok := by
      unfold qDecL; dsimp only; rw [if_pos ht]; split
      · intro x hx
        rw [qA_s, List.mem_append, List.mem_singleton] at hx
        rcases hx with hx | hx
        · exact .inl hx
        · exact .inr (by rw [hx])
      · intro x hx; exact .inl hx
    have g : ∀ i, i < (L 1).length → (qg ((qDecL wd tok sort sc L) 1) i).1 = (qg (L 1) i).1 ∧ (qg ((qDecL wd tok sort sc L) 1) i).2.1 = (qg (L 1) i).2.1 ∧ (qg ((qDecL wd tok sort sc L) 1) i).2.2.1 = (qg (L 1) i).2.2.1 ∧ (qg ((qDecL wd tok sort sc L) 1) i).2.2.2.2 = (qg (L 1) i).2.2.2.2 ∧ (qg ((qDecL wd tok sort sc L) 1) i).2.2.2.1 = (qg (L 1) i).2.2.2.1 + (if i = qDecT wd tok sort sc L then 1 else 0) := by
      intro i hi
      rw [e1]
      by_cases e : i = qDecT wd tok sort sc L
      · subst e; rw [qg_mod ht]; simp
      · rw [qg_modn e]; simp [e]
    have l1 : ((qDecL wd tok sort sc L) 1).length = (L 1).length := by rw [e1]; simp
    refine ⟨⟨hI, hs, i2, ?_, i4, ⟨?_, ?_⟩, ?_, ⟨i7.1, ?_, i7.2.2⟩, i8⟩, ?_⟩
    · intro i hi
      rw [l1] at hi
      obtain ⟨g1, g2, g3, g4, g5⟩ := g i hi
      have := i3 i hi
      rw [g1, g2, g3, g5]
      exact ⟨this.1, this.2.1, this.2.2.1, by have := this.2.2.2; omega⟩
    · intro e he
      have := i5.1 e he
      obtain ⟨g1, g2, g3, g4, g5⟩ := g _ this.1
      have t1 := (i3 _ this.1).2.2.2
      rw [l1, g1, g3, g4, g5]
      refine ⟨this.1, this.2.1, ?_⟩
      split
      · intro e'; omega
      · exact this.2.2
    · intro i hi
      rw [l1] at hi
      obtain ⟨g1, g2, g3, g4, g5⟩ := g i hi
      have t1 := (i3 i hi).2.2.2
      rw [g1, g3, g4, g5]
      split
      · intro _ e'; omega
      · exact i5.2 i hi
    · intro x hx i hi
      rw [l1] at hi
      rw [(g i hi).1]
      rcases e14 x hx with hx | hx
      · exact i6 x hx i hi
      · have := q_iv_lt i1 hi; omega
    · intro x hx
      rcases e14 x hx with hx | hx
      · exact i7.2.1 x hx
      · rw [hx]; exact h3
    · rw [l1]
      refine ⟨ht, ?_⟩
      obtain ⟨g1, g2, g3, g4, g5⟩ := g _ ht
      have t1 := (i3 _ ht).2.2.2
      rw [g5, if_pos rfl]
      intro e'; omega
  · have e0 : qDecL wd tok sort sc L = qA 1 (tok, if sort = 2 then qHome L sc else sc, sort, 1, 0) L := by
      unfold qDecL; dsimp only; rw [if_neg ht]
    have et : qDecT wd tok sort sc L = (L 1).length := by
      have := q_find_le wd (L 1) (if sort = 2 then qHome L sc else sc) (wd tok)
      have h' : qDecT wd tok sort sc L ≤ (L 1).length := this
      omega
    rw [e0] at hI
    rw [e0, et, qA_s]
    have hq : (if sort = 2 then qHome L sc else sc) < (L 0).length := by
      split
      · have := i2.home sc hs; unfold qHome; omega
      · exact hs
    refine ⟨⟨hI, hs, i2, ?_, i4, ⟨?_, ?_⟩, ?_, i7, i8⟩, ?_⟩
    · intro i hi
      rw [List.length_append, List.length_singleton] at hi
      by_cases e : i < (L 1).length
      · rw [qg_lt e]; exact i3 i e
      · have : i = (L 1).length := by omega
        subst this; rw [qg_eq]; exact ⟨hq, h3, h4, Nat.le_refl _⟩
    · intro e he
      have := i5.1 e he
      rw [qg_lt this.1]
      refine ⟨by rw [List.length_append]; omega, this.2⟩
    · intro i hi
      rw [List.length_append, List.length_singleton] at hi
      by_cases e : i < (L 1).length
      · rw [qg_lt e]; exact i5.2 i e
      · have : i = (L 1).length := by omega
        subst this; rw [qg_eq]; intro _ _ e'; exact absurd (show 1 ≤ 0 from e') (by decide)
    · intro x hx i hi
      rw [qA_n _ _ (by decide)] at hx
      rw [List.length_append, List.length_singleton] at hi
      by_cases e : i < (L 1).length
      · rw [qg_lt e]; exact i6 x hx i e
      · have : i = (L 1).length := by omega
        subst this; rw [qg_eq]
        have := q_iv_14 i1 hx
        show x.1 ≠ tok
        omega
    · refine ⟨by rw [List.length_append, List.length_singleton]; omega, ?_⟩
      rw [qg_eq]; intro _; exact ⟨rfl, rfl⟩
theorem ok_let {tk m : Nat → Nat} {L : qL} {wd : Nat → Nat} {tok k sc : Nat} (h : qOk tk m sc (qDecL wd (tok + 1) k sc L)) (hd : qDd wd (tok + 1) k sc L) (h6 : m 6 ≤ tok) (hk : tk tok = k) : qOk tk (fun g => if g = 6 then tok + 1 else m g) sc (qLetL k tok (qDecT wd (tok + 1) k sc L) (qDecL wd (tok + 1) k sc L)) := by
  obtain ⟨d1, d2⟩ := hd
  generalize qDecT wd (tok + 1) k sc L = t at d1 d2 ⊢
  generalize qDecL wd (tok + 1) k sc L = L' at h d1 d2 ⊢
  obtain ⟨i1, hs, i2, i3, i4, i5, i6, i7, i8⟩ := h
  have hV := i1.M (f := 1) (i := t) (u := fun e => (e.1, e.2.1, e.2.2.1, e.2.2.2.1, e.2.2.2.2 + 1)) (fun e => rfl)
  have e1 : (qLetL k tok t L') 1 = (L' 1).modify t (fun e => (e.1, e.2.1, e.2.2.1, e.2.2.2.1, e.2.2.2.2 + 1)) := by
    unfold qLetL qVald; split <;> rfl
  have g : ∀ i, i < (L' 1).length → (qg ((qLetL k tok t L') 1) i).1 = (qg (L' 1) i).1 ∧ (qg ((qLetL k tok t L') 1) i).2.1 = (qg (L' 1) i).2.1 ∧ (qg ((qLetL k tok t L') 1) i).2.2.1 = (qg (L' 1) i).2.2.1 ∧ (qg ((qLetL k tok t L') 1) i).2.2.2.1 = (qg (L' 1) i).2.2.2.1 ∧ (qg ((qLetL k tok t L') 1) i).2.2.2.2 = (qg (L' 1) i).2.2.2.2 + (if i = t then 1 else 0) := by
    intro i hi
    rw [e1]
    by_cases e : i = t
    · subst e; rw [qg_mod d1]; simp
    · rw [qg_modn e]; simp [e]
  have l1 : ((qLetL k tok t L') 1).length = (L' 1).length := by rw [e1]; simp
  have hI : qIv (fun g => if g = 6 then tok + 1 else m g) (qLetL k tok t L') := by
    unfold qLetL
    split
    · exact hV.A (f := 6) (x := (tok, t, 0, 0, 0)) (by show m 6 < tok + 1; omega)
    · refine hV.mono ?_
      intro g; show m g ≤ if g = 6 then tok + 1 else m g
      split
      · subst_vars; omega
      · exact Nat.le_refl _
  have m6 : ∀ e, e ∈ (qLetL k tok t L') 6 → e ∈ L' 6 ∨ (k = 0 ∧ e = (tok, t, 0, 0, 0)) := by
    unfold qLetL
    split
    · intro e he
      rw [qA_s, List.mem_append, List.mem_singleton] at he
      rcases he with he | he
      · exact .inl he
      · exact .inr ⟨by assumption, he⟩
    · intro e he; exact .inl he
  have m6' : ∀ e, e ∈ L' 6 → e ∈ (qLetL k tok t L') 6 := by
    unfold qLetL
    split
    · intro e he; rw [qA_s]; exact List.mem_append_left _ he
    · intro e he; exact he
  have m60 : k = 0 → (tok, t, 0, 0, 0) ∈ (qLetL k tok t L') 6 := by
    intro e; unfold qLetL; rw [if_pos e, qA_s]; exact List.mem_append_right _ (List.mem_singleton.mpr rfl)
  unfold qOk
  simp only [q_let_at (L := L') (g := 0) (by decide) (by decide), q_let_at (L := L') (g := 2) (by decide) (by decide), q_let_at (L := L') (g := 14) (by decide) (by decide), q_let_at (L := L') (g := 16) (by decide) (by decide), q_let_at (L := L') (g := 18) (by decide) (by decide), q_let_at (L := L') (g := 19) (by decide) (by decide), q_let_at (L := L') (g := 4) (by decide) (by decide)]
  refine ⟨hI, hs, i2, ?_, i4, ⟨?_, ?_⟩, ?_, ⟨?_, i7.2⟩, i8⟩
  · intro i hi
    rw [l1] at hi
    obtain ⟨g1, g2, g3, g4, g5⟩ := g i hi
    rw [g1, g2, g3, g4]
    exact i3 i hi
  · intro e he
    rw [l1]
    rcases m6 e he with he | ⟨k0, he⟩
    · have := i5.1 e he
      obtain ⟨g1, g2, g3, g4, g5⟩ := g _ this.1
      rw [g1, g3, g4, g5]
      exact ⟨this.1, by omega, this.2.2⟩
    · subst he
      obtain ⟨g1, g2, g3, g4, g5⟩ := g _ d1
      show t < _ ∧ 1 ≤ (qg ((qLetL k tok t L') 1) t).2.2.2.2 ∧ ((qg ((qLetL k tok t L') 1) t).2.2.2.1 = 1 → (qg ((qLetL k tok t L') 1) t).1 = tok + 1 ∧ (qg ((qLetL k tok t L') 1) t).2.2.1 = 0)
      rw [g1, g3, g4, g5, if_pos rfl]
      exact ⟨d1, by omega, fun e => ⟨(d2 e).1, (d2 e).2.trans k0⟩⟩
  · intro i hi
    rw [l1] at hi
    obtain ⟨g1, g2, g3, g4, g5⟩ := g i hi
    rw [g1, g3, g4, g5]
    by_cases e : i = t
    · subst e
      intro s0 t1 _
      have := d2 t1
      have k0 : k = 0 := by omega
      exact ⟨_, m60 k0, rfl, this.1⟩
    · rw [if_neg e]
      intro s0 t1 w1
      obtain ⟨x, x1, x2⟩ := i5.2 i hi s0 t1 w1
      exact ⟨x, m6' x x1, x2⟩
  · intro x hx i hi
    rw [l1] at hi
    rw [(g i hi).1]
    exact i6 x hx i hi
  · intro e he
    rcases m6 e he with he | ⟨k0, he⟩
    · exact i7.1 e he
    · rw [he]; exact hk.trans k0
theorem ok_open {tk m : Nat → Nat} {L : qL} {fn p sc : Nat} (h : qOk tk m sc L) (hp : m 0 < p) (hf : fn ≤ 1) : qOk tk (fun g => if g = 0 then p else m g) (L 0).length (qOpen fn p sc L) := by
  obtain ⟨i1, hs, i2, i3, i4, i5, i6, i7, i8⟩ := h
  unfold qOk
  simp only [q_open_at (L := L) (g := 1) (by decide), q_open_at (L := L) (g := 2) (by decide), q_open_at (L := L) (g := 6) (by decide), q_open_at (L := L) (g := 14) (by decide), q_open_at (L := L) (g := 16) (by decide), q_open_at (L := L) (g := 18) (by decide), q_open_at (L := L) (g := 19) (by decide), q_open_at (L := L) (g := 4) (by decide)]
  have e0 : (qOpen fn p sc L) 0 = L 0 ++ [(sc, fn, if fn = 1 then (L 0).length else qHome L sc, (qg (L 0) sc).2.2.2.1 + 1, p)] := rfl
  have l0 : ((qOpen fn p sc L) 0).length = (L 0).length + 1 := by rw [e0]; simp
  refine ⟨i1.A (f := 0) (x := (sc, fn, if fn = 1 then (L 0).length else qHome L sc, (qg (L 0) sc).2.2.2.1 + 1, p)) hp, by omega, ?_, ?_, ?_, i5, i6, i7, i8⟩
  · rw [e0]
    refine ⟨by simp, by rw [qg_lt i2.1]; exact i2.2.1, ?_⟩
    intro i h0 hi
    rw [List.length_append, List.length_singleton] at hi
    by_cases e : i < (L 0).length
    · have := i2.2.2 i h0 e
      rw [qg_lt e, qg_lt (by omega)]; exact this
    · have : i = (L 0).length := by omega
      subst this
      rw [qg_eq]
      dsimp only
      rw [qg_lt hs]
      exact ⟨hs, hf, by split <;> rfl, rfl⟩
  · intro i hi
    have := i3 i hi
    exact ⟨by omega, this.2⟩
  · intro e he
    have := i4 e he
    exact ⟨by omega, this.2⟩
