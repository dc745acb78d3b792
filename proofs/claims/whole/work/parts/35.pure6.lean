/-! PURE: keywords by their octets -/
theorem lg_cmp_0 (x y : Int64) : (lg_cmp x y = 0) = (x = y) := by
  unfold lg_cmp
  by_cases h : x > y
  · rw [if_pos h]
    have : ¬ x = y := fun e => by rw [e] at h; exact Int64.lt_irrefl h
    simp [this]
  · rw [if_neg h]
    by_cases h2 : x = y
    · simp [h2]
    · simp [h2]
def pKw (k : Nat) : Bool := decide (k < 8)
theorem pKw_eq : ∀ k, k < 28 → (xTokKw.getD k 0 = 0) = (pKw k = false) := by
  intro k hk
  have h : ∀ k, k < 28 → (xTokKw.getD k 0 = 0 ↔ pKw k = false) := by decide
  exact propext (h k hk)
def pKwN (w : Int64) : Nat → Nat → Nat
  | _, 0 => 23
  | v, m + 1 => if pKw v && decide (xTokOc.getD v 0 = w) then v else pKwN w (v + 1) m
/-- the keyword of these octets; 23 (NAME) if there is none -/
def pKwOf (w : Int64) : Nat := pKwN w 0 28
theorem p_keywordOf_2 {M : xMem} {w : Int64} : ∀ (m v fuel : Nat), v + m = 28 → m < fuel → f_D_keywordOf_2 w fuel (nI v) M = some (pKwN w v m, M) := by
  intro m
  induction m with
  | zero =>
    intro v fuel hv hf
    obtain ⟨f, rfl⟩ : ∃ f, fuel = f + 1 := ⟨fuel - 1, by omega⟩
    simp only [f_D_keywordOf_2]
    have e1 : (28 : Int32) ≤ nI v := nI_le (a := 28) (b := v) (by omega) (by omega)
    rw [if_pos e1]
    rfl
  | succ m ih =>
    intro v fuel hv hf
    obtain ⟨f, rfl⟩ : ∃ f, fuel = f + 1 := ⟨fuel - 1, by omega⟩
    have hv28 : v < 28 := by omega
    have hgo : f_D_keywordOf_40 w (f_D_keywordOf_2 w f) (nI v) M = some (pKwN w (v + 1) m, M) := by
      unfold f_D_keywordOf_40
      rw [nI_inc]
      exact ih (v + 1) f (by omega) (by omega)
    have e1 : ¬ (28 : Int32) ≤ nI v := nI_ge (a := v) (b := 28) hv28 (by decide)
    simp only [f_D_keywordOf_2, xval]
    rw [if_neg e1, if_pos (xin_nI hv28 (by decide)), nI_clamp (by omega), if_pos hv28]
    simp only [pKw_eq v hv28]
    rw [pKwN]
    cases hs : pKw v with
    | false => rw [if_pos rfl, hgo]; rfl
    | true =>
      rw [if_neg (by decide), if_pos (xin_nI hv28 (by decide)), if_pos hv28]
      simp only [lg_cmp_0]
      by_cases hh : xTokOc.getD v 0 = w
      · rw [if_pos hh, if_pos (xin_nI hv28 (by decide)), if_pos hv28, if_pos (by rw [decide_eq_true hh]; rfl)]
      · rw [if_neg hh, hgo, if_neg (by rw [decide_eq_false hh]; decide)]
theorem p_keywordOf {M : xMem} {w : Int64} : f_D_keywordOf w M = some (pKwOf w, M) := p_keywordOf_2 28 0 2000 (by omega) (by omega)
