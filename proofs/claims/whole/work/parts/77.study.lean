/-! PURE: the class reads a text -/
theorem p_bind_2 {b : Nat} {t : List Nat} {L : qL} (hF : qFin t L) : ∀ (m v fuel : Nat) (M : xMem), v + m = (L 2).length → m < fuel → rBd M b t L (cR t L v) (cW t L v) (cF t L v) (qBnd t L v) → ∃ M', f_B_bindAll_2 b fuel (nI v) M = f_B_bindAll_23 b xFuel 0 M' ∧ rBd M' b t L (cR t L (L 2).length) (cW t L (L 2).length) (cF t L (L 2).length) (qBnd t L (L 2).length) ∧ pFr (b + 8) (b + 30) M M' := by
  have f4 := hF.2.2.2.1
  intro m
  induction m with
  | zero =>
    intro v fuel M hv hf h
    obtain ⟨f, rfl⟩ : ∃ f, fuel = f + 1 := ⟨fuel - 1, by omega⟩
    have e : v = (L 2).length := by omega
    subst e
    refine ⟨M, ?_, h, pFr.rfl⟩
    rw [f_B_bindAll_2, if_pos (show M.1 (b + 25) 7 ≤ nI (L 2).length by rw [h.2.2.2.1.1]; exact nI_le (Nat.le_refl _) (by omega))]
  | succ m ih =>
    intro v fuel M hv hf h
    obtain ⟨f, rfl⟩ : ∃ f, fuel = f + 1 := ⟨fuel - 1, by omega⟩
    obtain ⟨M1, o1, r1, fr1⟩ := p_bind h hF (by omega)
    obtain ⟨M', o2, r2, fr2⟩ := ih (v + 1) f M1 (by omega) (by omega) r1
    refine ⟨M', ?_, r2, fr1.trans fr2⟩
    rw [f_B_bindAll_2, if_neg (show ¬ M.1 (b + 25) 7 ≤ nI v by rw [h.2.2.2.1.1]; exact nI_ge (by omega) (by omega)), o1, xb_some, nI_inc]
    exact o2
theorem p_judge_23 {b f0 : Nat} {t : List Nat} {L K : qL} {R W : Nat → Nat} (hF : qFin t L) (hR : ∀ j, R j ≤ 1000) (hW : ∀ j, W j ≤ 1000) (hT : ∀ j, j < (L 1).length → (qg (L 1) j).2.2.2.1 ≤ 60 ∧ (qg (L 1) j).2.2.2.2 ≤ (qg (L 1) j).2.2.2.1) (h1' : ∀ j, j < (L 1).length → (qg (L 1) j).2.2.1 = 0 → (qg (L 1) j).2.2.2.1 = 1 → (qg (L 1) j).2.2.2.2 ≠ 0 → 1 ≤ (qg (L 1) j).1) : ∀ (m v fuel : Nat) (M : xMem), v + m = (L 1).length → m < fuel → rBd M b t L R W f0 (qJdg t L R W K v) → ∃ M', f_B_bindAll_23 b fuel (nI v) M = some ((), M') ∧ rBd M' b t L R W f0 (qJdg t L R W K (L 1).length) ∧ pFr (b + 8) (b + 30) M M' := by
  have f3 := hF.2.2.1
  intro m
  induction m with
  | zero =>
    intro v fuel M hv hf h
    obtain ⟨f, rfl⟩ : ∃ f, fuel = f + 1 := ⟨fuel - 1, by omega⟩
    have e : v = (L 1).length := by omega
    subst e
    refine ⟨M, ?_, h, pFr.rfl⟩
    rw [f_B_bindAll_23, if_pos (show M.1 (b + 12) 8 ≤ nI (L 1).length by rw [h.2.2.1.1]; exact nI_le (Nat.le_refl _) (by omega))]
  | succ m ih =>
    intro v fuel M hv hf h
    obtain ⟨f, rfl⟩ : ∃ f, fuel = f + 1 := ⟨fuel - 1, by omega⟩
    obtain ⟨M1, o1, r1, fr1⟩ := p_judge h hF (i := v) (by omega) hR hW hT h1'
    obtain ⟨M', o2, r2, fr2⟩ := ih (v + 1) f M1 (by omega) (by omega) r1
    refine ⟨M', ?_, r2, fr1.trans fr2⟩
    rw [f_B_bindAll_23, if_neg (show ¬ M.1 (b + 12) 8 ≤ nI v by rw [h.2.2.1.1]; exact nI_ge (by omega) (by omega)), o1, xb_some, nI_inc]
    exact o2
/-- reads, writes, free USES and marks of a PROGRAM -/
def qRd (t : List Nat) (L : qL) : Nat → Nat := cR t L (L 2).length
def qWr (t : List Nat) (L : qL) : Nat → Nat := cW t L (L 2).length
def qFr (t : List Nat) (L : qL) : Nat := cF t L (L 2).length
def qEnd (t : List Nat) (L : qL) : qL := qJdg t L (qRd t L) (qWr t L) (qBnd t L (L 2).length) (L 1).length
/-- the class has read the PROGRAM t: its lists are L -/
def rEnd (M : xMem) (b : Nat) (t : List Nat) (L : qL) : Prop := rBd M b t L (qRd t L) (qWr t L) (qFr t L) (qEnd t L)
theorem q_first {t : List Nat} {tok sc : Nat} {L : qL} (h : qRun (kT t) (wT' t) (dT t) = .inr ([], tok, sc, L)) : ∀ j, j < (L 1).length → (qg (L 1) j).2.2.1 = 0 → (qg (L 1) j).2.2.2.1 = 1 → (qg (L 1) j).2.2.2.2 ≠ 0 → 1 ≤ (qg (L 1) j).1 := by
  intro j hj e1 e2 e3
  obtain ⟨_, ok, _⟩ := q_prog h
  obtain ⟨x, _, _, hx⟩ := ok.2.2.2.2.2.1.2 j hj e1 e2 (by omega)
  omega
theorem p_bindAll {M : xMem} {b tok sc : Nat} {t : List Nat} {L : qL} (hq : qRun (kT t) (wT' t) (dT t) = .inr ([], tok, sc, L)) (h : rC M b t tok sc L) : ∃ M', f_B_bindAll b M = some ((), M') ∧ rEnd M' b t L ∧ pFr (b + 8) (b + 30) M M' := by
  obtain ⟨a1, a2, a3, a4, a5⟩ := q_prog hq
  obtain ⟨g1, g2, g3, h1, h2, h3, h4, h5, h6⟩ := h
  have r0 : rBd M b t L (cR t L 0) (cW t L 0) (cF t L 0) (qBnd t L 0) := ⟨g1, h1, h2.t2, h3, h4, h5, h6⟩
  have f4 := a3.2.2.2.1
  have f3 := a3.2.2.1
  obtain ⟨M1, o1, r1, fr1⟩ := p_bind_2 a3 (L 2).length 0 xFuel M (by omega) (by unfold xFuel; omega) r0
  have hR : ∀ j, qRd t L j ≤ 1000 := fun j => by have := cR_le (t := t) (L := L) (L 2).length j; unfold qRd; omega
  have hW : ∀ j, qWr t L j ≤ 1000 := by
    intro j
    have := cW_le (t := t) (L := L) (L 2).length j
    unfold qWr
    by_cases c : j < (L 1).length
    · have := a4 j c; omega
    · have e : (qg (L 1) j) = (0, 0, 0, 0, 0) := by unfold qg; rw [List.getD_eq_getElem?_getD, List.getElem?_eq_none (by omega)]; rfl
      rw [e] at this
      dsimp only at this
      omega
  obtain ⟨M2, o2, r2, fr2⟩ := p_judge_23 (K := qBnd t L (L 2).length) a3 hR hW a4 (q_first hq) (L 1).length 0 xFuel M1 (by omega) (by unfold xFuel; omega) r1
  refine ⟨M2, ?_, r2, fr1.trans fr2⟩
  unfold f_B_bindAll
  exact o1.trans o2
/-- the class's study() -/
theorem p_study {M : xMem} {b : Nat} {t : List Nat} (h : pTx M b t) : (∃ e M', qRun (kT t) (wT' t) (dT t) = .inl e ∧ e ≤ nT t ∧ f_R_study b M = some (nI (pS (pLex t) e), M') ∧ pTx M' b t ∧ pFr (b + 2) (b + 30) M M') ∨ (∃ tok sc L M', qRun (kT t) (wT' t) (dT t) = .inr ([], tok, sc, L) ∧ f_R_study b M = some (-1, M') ∧ rEnd M' b t L ∧ pFr (b + 2) (b + 30) M M') := by
  obtain ⟨M1, o1, l1, fr1⟩ := p_scan h
  have fr1' : pFr (b + 2) (b + 30) M M1 := fr1.mono (by omega) (by omega)
  rcases p_program l1 with ⟨e, M2, q, he, o2, fr2⟩ | ⟨tok, sc, L, M2, q, o2, r2, fr2⟩
  · left
    have le := pS_lt t e h.2.1
    have fr : pFr (b + 2) (b + 30) M M2 := fr1'.trans (fr2.mono (by omega) (by omega))
    refine ⟨e, M2, q, he, ?_, h.fr fr (by omega), fr⟩
    unfold f_R_study
    rw [o1, xb_some, o2, xb_some, if_pos (show 0 ≤ nI (pS (pLex t) e) from (nI_le (Nat.zero_le _) (by omega) : nI 0 ≤ nI (pS (pLex t) e)))]
  · right
    obtain ⟨M3, o3, r3, fr3⟩ := p_bindAll q r2
    refine ⟨tok, sc, L, M3, q, ?_, r3, (fr1'.trans (fr2.mono (by omega) (by omega))).trans (fr3.mono (by omega) (by omega))⟩
    unfold f_R_study
    rw [o1, xb_some, o2, xb_some, if_neg (by decide), o3, xb_some]
