/-! PURE: a TOKEN is known by its letters and the one behind -/
theorem pScan_iff0 {f : Nat → Bool} {t : List Nat} (f0 : f 0 = false) : ∀ (n q : Nat), pScan f t q = q + n ↔ (∀ i, i < n → f (pc t (q + i)) = true) ∧ f (pc t (q + n)) = false := by
  intro n
  induction n with
  | zero =>
    intro q
    by_cases c : q < t.length
    · cases hf : f (pc t q) with
      | false => rw [pScan_stop c hf]; exact ⟨fun _ => ⟨fun i h => by omega, rfl⟩, fun _ => rfl⟩
      | true =>
        rw [pScan_go c hf]
        have := pScan_ge (f := f) (t := t) (k := q + 1)
        refine ⟨fun h => by omega, fun h => ?_⟩
        exact absurd h.2 (by decide)
    · rw [pScan_end (by omega)]
      exact ⟨fun _ => ⟨fun i h => by omega, by rw [Nat.add_zero, pc_end (by omega)]; exact f0⟩, fun _ => rfl⟩
  | succ n ih =>
    intro q
    by_cases c : q < t.length
    · cases hf : f (pc t q) with
      | false =>
        rw [pScan_stop c hf]
        refine ⟨fun h => by omega, fun h => ?_⟩
        have h2 := h.1 0 (by omega)
        rw [Nat.add_zero, hf] at h2; cases h2
      | true =>
        rw [pScan_go c hf, show q + (n + 1) = q + 1 + n by omega, ih (q + 1)]
        refine ⟨fun h => ⟨fun i hi => ?_, h.2⟩, fun h => ⟨fun i hi => ?_, h.2⟩⟩
        · cases i with
          | zero => exact hf
          | succ i => have := h.1 i (by omega); rw [show q + (i + 1) = q + 1 + i by omega]; exact this
        · have := h.1 (i + 1) (by omega); rw [show q + (i + 1) = q + 1 + i by omega] at this; exact this
    · rw [pScan_end (by omega)]
      refine ⟨fun h => by omega, fun h => ?_⟩
      have h2 := h.1 0 (by omega)
      rw [Nat.add_zero, pc_end (by omega), f0] at h2; cases h2
theorem pScan_to {f : Nat → Bool} {t : List Nat} : ∀ (m q : Nat), (∀ i, i < m → f (pc t (q + i)) = true) → q + m < t.length → f (pc t (q + m)) = false → pScan f t q = q + m := by
  intro m
  induction m with
  | zero => intro q _ h1 h2; exact pScan_stop h1 h2
  | succ m ih =>
    intro q h h1 h2
    rw [pScan_go (k := q) (by omega) (h 0 (by omega)), ih (q + 1) (fun i hi => by have := h (i + 1) (by omega); rw [show q + 1 + i = q + (i + 1) by omega]; exact this) (by omega) (by rw [show q + 1 + m = q + (m + 1) by omega]; exact h2)]
    omega
theorem pScan_all {f : Nat → Bool} {t : List Nat} : ∀ (m q : Nat), pScan f t q = q + m → ∀ i, i < m → f (pc t (q + i)) = true := by
  intro m
  induction m with
  | zero => intro q _ i hi; omega
  | succ m ih =>
    intro q h i hi
    by_cases c : q < t.length
    · cases hf : f (pc t q) with
      | false => rw [pScan_stop c hf] at h; omega
      | true =>
        rw [pScan_go c hf] at h
        cases i with
        | zero => exact hf
        | succ i => have := ih (q + 1) (by omega) i (by omega); rw [show q + (i + 1) = q + 1 + i by omega]; exact this
    · rw [pScan_end (by omega)] at h; omega
theorem pOct_same {t u : List Nat} {p q n : Nat} (hc : ∀ i, i < n → pc u (p + i) = pc t (q + i)) : pOct u p (p + n) = pOct t q (q + n) := by
  unfold pOct
  rw [show p + n - p = n by omega, show q + n - q = n by omega, pVal_same n p q hc]
theorem pTok_local {t u : List Nat} {p q k n : Nat} (e : pTok t q = (k, q + n)) (hk : k < 26) (hu : p + n ≤ u.length) (hc : ∀ i, i < n → pc u (p + i) = pc t (q + i)) (hf : pc u (p + n) = pc t (q + n) ∨ (pc t (q + n) = 108 ∧ pc u (p + n) = 99) ∨ k = 18 ∨ k = 19 ∨ k = 20) : pTok u p = (k, p + n) := by
  by_cases hq : t.length ≤ q
  · unfold pTok at e
    rw [if_pos hq] at e
    injection e with e1 e2
    omega
  have n1 : 1 ≤ n := by
    have := (pTok_ok (t := t) (p := q) (by omega)).2.2.2 (by rw [e]; unfold pClosing; simp; omega)
    rw [e] at this
    have this : q < q + n := this
    omega
  have c0 : pc u p = pc t q := hc 0 (by omega)
  unfold pTok at e ⊢
  rw [if_neg hq] at e
  rw [if_neg (show ¬ u.length ≤ p by omega), c0]
  split at e
  · rename_i h1
    rw [if_pos h1]
    injection e with e1 e2
    have s := (pScan_iff0 (f := pWordC) (t := t) (by decide) n q).mp e2
    have fu : pWordC (pc u (p + n)) = false := by
      rcases hf with hf | hf | hf
      · rw [hf]; exact s.2
      · have := s.2
        rw [hf.1] at this
        exact absurd this (by decide)
      · have := pKwOf_lt (pOct t q (pScan pWordC t q))
        omega
    have su := (pScan_iff0 (f := pWordC) (t := u) (by decide) n p).mpr ⟨fun i hi => by rw [hc i hi]; exact s.1 i hi, fu⟩
    rw [su, pOct_same hc, ← e2, e1]
  rename_i h1
  rw [if_neg h1]
  split at e
  · rename_i h2
    rw [if_pos h2]
    injection e with e1 e2
    have s := (pScan_iff0 (f := pDigit) (t := t) (by decide) n q).mp e2
    have fu : pDigit (pc u (p + n)) = false := by
      rcases hf with hf | hf | hf
      · rw [hf]; exact s.2
      · rw [hf.2]; decide
      · omega
    have su := (pScan_iff0 (f := pDigit) (t := u) (by decide) n p).mpr ⟨fun i hi => by rw [hc i hi]; exact s.1 i hi, fu⟩
    rw [su, e1]
  rename_i h2
  rw [if_neg h2]
  split at e
  · rename_i h3
    rw [if_pos h3]
    injection e with e1 e2
    rw [e2, if_pos (by omega)] at e1
    unfold pTextEnd at e2
    split at e2
    · rename_i h4
      have g := pScan_ge (f := pIn) (t := t) (k := q + 1)
      have e3 : pScan pIn t (q + 1) = (q + 1) + (n - 2) := by omega
      have n2 : 2 ≤ n := by omega
      have al := pScan_all (n - 2) (q + 1) e3
      rw [show pScan pIn t (q + 1) = q + (n - 1) by omega] at h4
      have u4 : pc u (p + (n - 1)) = 39 := by rw [hc (n - 1) (by omega)]; exact h4
      have su : pScan pIn u (p + 1) = (p + 1) + (n - 2) := by
        refine pScan_to (n - 2) (p + 1) ?_ (by omega) ?_
        · intro i hi
          have := al i hi
          rw [show q + 1 + i = q + (i + 1) by omega] at this
          rw [show p + 1 + i = p + (i + 1) by omega, hc (i + 1) (by omega)]; exact this
        · rw [show p + 1 + (n - 2) = p + (n - 1) by omega, u4]; rfl
      unfold pTextEnd
      rw [su, show p + 1 + (n - 2) = p + (n - 1) by omega, if_pos u4, if_pos (by omega)]
      rw [show p + (n - 1) + 1 = p + n by omega, e1]
    · omega
  rename_i h3
  rw [if_neg h3]
  injection e with e1 e2
  have es : pSign u p = pSign t q := by
    by_cases c61 : pc t q = 61
    · rw [pSign_eq] at e1
      rw [if_pos c61] at e1
      rw [pSign_eq, pSign_eq, c0, if_pos c61, if_pos c61]
      rw [pSign_eq, if_pos c61] at e2
      by_cases c1 : pc t (q + 1) = 61
      · by_cases c2 : pc t (q + 2) = 61
        · rw [if_pos c1, if_pos c2] at e2 e1
          have e2 : q + 3 = q + n := e2
          rw [hc 1 (by omega), hc 2 (by omega)]
        · rw [if_pos c1, if_neg c2] at e2 e1
          have e2 : q + 2 = q + n := e2
          have : n = 2 := by omega
          subst this
          have c2' : ¬ pc u (p + 2) = 61 := by
            rcases hf with hf | hf | hf
            · rw [hf]; exact c2
            · rw [hf.2]; decide
            · omega
          rw [hc 1 (by omega), if_pos c1, if_pos c1, if_neg c2', if_neg c2]
      · rw [if_neg c1] at e2 e1
        have e2 : q + 1 = q + n := e2
        have : n = 1 := by omega
        subst this
        have c1' : ¬ pc u (p + 1) = 61 := by
          rcases hf with hf | hf | hf
          · rw [hf]; exact c1
          · rw [hf.2]; decide
          · omega
        rw [if_neg c1, if_neg c1']
    · rw [pSign_eq, pSign_eq, c0, if_neg c61, if_neg c61]
  rw [es, e1]
  rw [e1] at e2
  rw [show (pT k).length = n by omega]
theorem pTok_same {z : List Nat} {u : List Nat} {p : Nat} (h0 : pc u p = 61) (h1 : pc u (p + 1) = 61) (h2 : pc u (p + 2) = 61) : pTok u p = (8, p + 3) := by
  unfold pTok
  have : p < u.length := by
    by_cases c : p < u.length
    · exact c
    · rw [pc_end (by omega)] at h0; cases h0
  rw [if_neg (by omega), h0, if_neg (by decide), if_neg (by decide), if_neg (by decide), pSign_eq, if_pos h0, if_pos h1, if_pos h2]
  rfl
theorem pTok_const {u : List Nat} {p : Nat} (hc : ∀ i, i < 5 → pc u (p + i) = pc [99, 111, 110, 115, 116] i) (hf : pWordC (pc u (p + 5)) = false) : pTok u p = (1, p + 5) := by
  have h0 : pc u p = 99 := hc 0 (by omega)
  unfold pTok
  have : p < u.length := by
    by_cases c : p < u.length
    · exact c
    · rw [pc_end (by omega)] at h0; cases h0
  have su := (pScan_iff0 (f := pWordC) (t := u) (by decide) 5 p).mpr ⟨fun i hi => by
    rw [hc i hi]
    have : ∀ i, i < 5 → pWordC (pc [99, 111, 110, 115, 116] i) = true := by decide
    exact this i hi, hf⟩
  rw [if_neg (by omega), if_pos (show pSmall (pc u p) = true by rw [h0]; decide), su]
  rw [pOct_same (t := [99, 111, 110, 115, 116]) (q := 0) (n := 5) (fun i hi => by rw [Nat.zero_add]; exact hc i hi)]
  have : pKwOf (pOct [99, 111, 110, 115, 116] 0 (0 + 5)) = 1 := by decide
  rw [this]
