/-! PURE: how TOKENS follow each other -/
theorem pK_cons {x : Nat × Nat × Nat} {T : List (Nat × Nat × Nat)} {i : Nat} : pK (x :: T) (i + 1) = pK T i ∧ pS (x :: T) (i + 1) = pS T i ∧ pE (x :: T) (i + 1) = pE T i := ⟨rfl, rfl, rfl⟩
theorem pLexN_chain {t : List Nat} : ∀ (m p : Nat), pS (pLexN t m p) 0 = p ∧ (∀ i, i < (pLexN t m p).length → i < m → pK (pLexN t m p) i = (pTok t (pS (pLexN t m p) i)).1 ∧ pE (pLexN t m p) i = (pTok t (pS (pLexN t m p) i)).2) ∧ (∀ i, i + 1 < (pLexN t m p).length → pClosing (pK (pLexN t m p) i) = false ∧ pS (pLexN t m p) (i + 1) = pScan pBlank t (pE (pLexN t m p) i)) ∧ pClosing (pK (pLexN t m p) ((pLexN t m p).length - 1)) = true := by
  intro m
  induction m with
  | zero =>
    intro p
    rw [pLexN]
    refine ⟨rfl, fun i _ h => absurd h (by omega), fun i h => absurd (show i + 1 < 1 from h) (by omega), ?_⟩
    show pClosing (if p < t.length then 27 else 26) = true
    split <;> rfl
  | succ m ih =>
    intro p
    rw [pLexN]
    by_cases c : pClosing (pTok t p).1 = true
    · rw [if_pos c]
      refine ⟨rfl, ?_, fun i h => absurd (show i + 1 < 1 from h) (by omega), c⟩
      intro i h _
      have : i = 0 := by have h : i < 1 := h; omega
      subst this
      exact ⟨rfl, rfl⟩
    · rw [if_neg c]
      obtain ⟨a, b, d, f⟩ := ih (pScan pBlank t (pTok t p).2)
      have hl := (pLexN_len (t := t) m (pScan pBlank t (pTok t p).2)).1
      generalize pLexN t m (pScan pBlank t (pTok t p).2) = T at *
      refine ⟨rfl, ?_, ?_, ?_⟩
      · intro i h h2
        cases i with
        | zero => exact ⟨rfl, rfl⟩
        | succ i => exact b i (by have h : i + 1 < T.length + 1 := h; omega) (by omega)
      · intro i h
        cases i with
        | zero =>
          refine ⟨?_, a⟩
          show pClosing (pTok t p).1 = false
          simpa using c
        | succ i => exact d i (by have h : i + 1 + 1 < T.length + 1 := h; omega)
      · have : (((pTok t p).1, p, (pTok t p).2) :: T).length - 1 = (T.length - 1) + 1 := by show T.length + 1 - 1 = _; omega
        rw [this]
        exact f
theorem nT_len (t : List Nat) : (pLex t).length = nT t + 1 := by have := pLex_len t; unfold nT; omega
theorem pLex_0 (t : List Nat) : pS (pLex t) 0 = pScan pBlank t 0 := (pLexN_chain 60 _).1
theorem pLex_tok {t : List Nat} {i : Nat} (h : i < nT t) : kT t i = (pTok t (pS (pLex t) i)).1 ∧ pE (pLex t) i = (pTok t (pS (pLex t) i)).2 :=
  (pLexN_chain (t := t) 60 (pScan pBlank t 0)).2.1 i (by have := nT_len t; unfold pLex at this; omega) (by have := nT_le t; omega)
theorem pLex_next {t : List Nat} {i : Nat} (h : i < nT t) : pClosing (kT t i) = false ∧ pS (pLex t) (i + 1) = pScan pBlank t (pE (pLex t) i) :=
  (pLexN_chain (t := t) 60 (pScan pBlank t 0)).2.2.1 i (by have := nT_len t; unfold pLex at this; omega)
theorem pLex_last (t : List Nat) : pClosing (kT t (nT t)) = true := by
  have := (pLexN_chain (t := t) 60 (pScan pBlank t 0)).2.2.2
  exact this
theorem pS_le (t : List Nat) (i : Nat) : pS (pLex t) i ≤ t.length ∧ pE (pLex t) i ≤ t.length := by
  unfold pS pE
  by_cases q : i < (pLex t).length
  · have : (pLex t).getD i (27, 0, 0) ∈ pLex t := by rw [List.getD_eq_getElem?_getD, List.getElem?_eq_getElem q]; exact List.getElem_mem q
    have := pLex_in t _ this
    omega
  · rw [List.getD_eq_getElem?_getD, List.getElem?_eq_none (by omega)]; exact ⟨Nat.zero_le _, Nat.zero_le _⟩
theorem pS_lt_E {t : List Nat} {i : Nat} (h : i < nT t) : pS (pLex t) i < pE (pLex t) i ∧ pE (pLex t) i ≤ pS (pLex t) (i + 1) := by
  have h1 := pLex_tok h
  have h2 := pLex_next h
  have h3 := pTok_ok (pS_le t i).1
  rw [h1.2]
  rw [h1.1] at h2
  refine ⟨h3.2.2.2 h2.1, ?_⟩
  rw [h2.2, h1.2]
  exact pScan_ge
theorem pS_mono {t : List Nat} {i j : Nat} (h : i < j) (hj : j ≤ nT t) : pE (pLex t) i ≤ pS (pLex t) j ∧ pS (pLex t) i < pS (pLex t) j := by
  induction j with
  | zero => omega
  | succ j ih =>
    have a := pS_lt_E (t := t) (i := j) (by omega)
    by_cases c : i = j
    · subst c; omega
    · have := ih (by omega) (by omega); omega
theorem pS_ltI {t : List Nat} {i j : Nat} (hi : i ≤ nT t) (hj : j ≤ nT t) : pS (pLex t) i < pS (pLex t) j ↔ i < j := by
  constructor
  · intro h
    by_cases c : i < j
    · exact c
    · by_cases e : i = j
      · subst e; omega
      · have := (pS_mono (t := t) (i := j) (j := i) (by omega) hi).2; omega
  · intro h; exact (pS_mono h hj).2
theorem pS_eqI {t : List Nat} {i j : Nat} (hi : i ≤ nT t) (hj : j ≤ nT t) : pS (pLex t) i = pS (pLex t) j ↔ i = j := by
  constructor
  · intro h
    have a := pS_ltI hi hj
    have b := pS_ltI hj hi
    omega
  · intro h; rw [h]
/-- a WORD has letters -/
theorem pSign_ne {t : List Nat} {p : Nat} (hp : p ≤ t.length) : 8 ≤ pSign t p ∧ pSign t p ≠ 23 := ⟨(pSign_end hp).2.2.2.2.1, (pSign_end hp).2.2.2.2.2.1⟩
theorem pTok_word {t : List Nat} {p : Nat} (hp : p ≤ t.length) (h : pIsW (pTok t p).1 = true) : p < t.length ∧ pSmall (pc t p) = true ∧ (pTok t p).2 = pScan pWordC t p := by
  unfold pTok at *
  by_cases c : t.length ≤ p
  · rw [if_pos c] at h; dsimp only at h; exact absurd h (by decide)
  rw [if_neg c] at *
  by_cases c1 : pSmall (pc t p) = true
  · rw [if_pos c1]; exact ⟨by omega, c1, rfl⟩
  rw [if_neg c1] at *
  by_cases c2 : pDigit (pc t p) = true
  · rw [if_pos c2] at h; dsimp only at h; exact absurd h (by decide)
  rw [if_neg c2] at *
  by_cases c3 : pc t p = 39
  · rw [if_pos c3] at h; dsimp only at h; exact absurd h (by split <;> decide)
  · rw [if_neg c3] at h
    have := pSign_ne hp
    unfold pIsW at h
    simp at h
    omega
theorem word_nz {t : List Nat} {i : Nat} (h : kT t i = 23 ∨ kT t i < 8) : ∀ k, pS (pLex t) i ≤ k → k < pE (pLex t) i → pc t k ≠ 0 := by
  have hi : i < nT t := kT_real (by omega)
  have h1 := pLex_tok hi
  have hw : pIsW (pTok t (pS (pLex t) i)).1 = true := by
    rw [← h1.1]; unfold pIsW; rcases h with h | h
    · rw [h]; rfl
    · rw [decide_eq_true h, Bool.or_true]
  have w := pTok_word (pS_le t i).1 hw
  intro k hk hk2
  rw [h1.2, w.2.2] at hk2
  exact pWord_nz w.1 k hk hk2
