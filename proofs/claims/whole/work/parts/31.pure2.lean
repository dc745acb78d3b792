/-! PURE: parts of a text, words -/
def pSameN (t : List Nat) (i j : Nat) : Nat → Nat → Bool
  | _, 0 => true
  | v, m + 1 => (pc t (i + v) == pc t (j + v)) && pSameN t i j (v + 1) m
theorem pSameN_iff {t : List Nat} {i j : Nat} : ∀ (m v : Nat), pSameN t i j v m = true ↔ ∀ k, k < m → pc t (i + v + k) = pc t (j + v + k)
  | 0, v => by simp [pSameN]
  | m + 1, v => by
    rw [pSameN, Bool.and_eq_true, pSameN_iff m (v + 1), beq_iff_eq]
    constructor
    · rintro ⟨h1, h2⟩ k hk
      cases k with
      | zero => exact h1
      | succ k =>
        have := h2 k (by omega)
        rw [show i + v + (k + 1) = i + (v + 1) + k by omega, show j + v + (k + 1) = j + (v + 1) + k by omega]
        exact this
    · intro h
      refine ⟨h 0 (by omega), fun k hk => ?_⟩
      have := h (k + 1) (by omega)
      rw [show i + (v + 1) + k = i + v + (k + 1) by omega, show j + (v + 1) + k = j + v + (k + 1) by omega]
      exact this
theorem p_samePart_3 {M : xMem} {b : Nat} {t : List Nat} (h : pTx M b t) {i j n : Nat} (hi : i < 1000) (hj : j < 1000) (hn : n < 1000) : ∀ (m v fuel : Nat), v + m = n → m < fuel → f_L_samePart_3 b (nI i) (nI j) (nI n) fuel (nI v) M = some (bI (pSameN t i j v m), M) := by
  intro m
  induction m with
  | zero =>
    intro v fuel hv hf
    obtain ⟨f, rfl⟩ : ∃ f, fuel = f + 1 := ⟨fuel - 1, by omega⟩
    simp only [f_L_samePart_3]
    rw [if_pos (nI_le (by omega) (by omega))]
    rfl
  | succ m ih =>
    intro v fuel hv hf
    obtain ⟨f, rfl⟩ : ∃ f, fuel = f + 1 := ⟨fuel - 1, by omega⟩
    simp only [f_L_samePart_3]
    rw [if_neg (nI_ge (by omega) (by omega)), nI_add, nI_add, p_L_at h (by omega)]
    simp only [xbind]
    rw [p_L_at h (by omega)]
    dsimp only
    have h1 := h.2.2.2 (i + v)
    have h2 := h.2.2.2 (j + v)
    have e : (nI (pc t (i + v)) = nI (pc t (j + v))) = (pc t (i + v) = pc t (j + v)) := propext (nI_eq (by omega) (by omega))
    simp only [e]
    by_cases c : pc t (i + v) = pc t (j + v)
    · rw [if_pos c, nI_inc, ih (v + 1) f (by omega) (by omega)]
      have : pSameN t i j v (m + 1) = pSameN t i j (v + 1) m := by
        rw [pSameN, c]; simp
      rw [this]
    · rw [if_neg c]
      have : pSameN t i j v (m + 1) = false := by
        rw [pSameN]; simp [c]
      rw [this]; rfl
theorem p_samePart {M : xMem} {b : Nat} {t : List Nat} (h : pTx M b t) {i j n : Nat} (hi : i < 1000) (hj : j < 1000) (hn : n < 1000) : f_L_samePart b (nI i) (nI j) (nI n) M = some (bI (pSameN t i j 0 n), M) := p_samePart_3 h hi hj hn n 0 2000 (by omega) (by omega)
