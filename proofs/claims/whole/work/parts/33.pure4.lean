/-! PURE: which sign stands at a place -/
def pSg (k : Nat) : Bool := decide (8 ≤ k ∧ k ≤ 22)
theorem pSg_eq : ∀ k, k < 28 → (xTokSg.getD k 0 = 0) = (pSg k = false) := by
  intro k hk
  have h : ∀ k, k < 28 → (xTokSg.getD k 0 = 0 ↔ pSg k = false) := by decide
  exact propext (h k hk)
def pSignN (t : List Nat) (p : Nat) : Nat → Nat → Nat
  | _, 0 => 27
  | v, m + 1 => if pSg v && pHolds t (pT v) p then v else pSignN t p (v + 1) m
/-- the sign at p; 27 (BAD) if there is none -/
def pSign (t : List Nat) (p : Nat) : Nat := pSignN t p 0 28
theorem p_signAt_2 {M : xMem} {b : Nat} {t : List Nat} (h : pTx M b t) {p : Nat} (hp : p < 1000) : ∀ (m v fuel : Nat), v + m = 28 → m < fuel → f_T_signAt_2 b (nI p) fuel (nI v) M = some (pSignN t p v m, M) := by
  intro m
  induction m with
  | zero =>
    intro v fuel hv hf
    obtain ⟨f, rfl⟩ : ∃ f, fuel = f + 1 := ⟨fuel - 1, by omega⟩
    simp only [f_T_signAt_2]
    have e1 : (28 : Int32) ≤ nI v := nI_le (a := 28) (b := v) (by omega) (by omega)
    rw [if_pos e1]
    rfl
  | succ m ih =>
    intro v fuel hv hf
    obtain ⟨f, rfl⟩ : ∃ f, fuel = f + 1 := ⟨fuel - 1, by omega⟩
    have hv28 : v < 28 := by omega
    have hgo : f_T_signAt_46 b (nI p) (f_T_signAt_2 b (nI p) f) (nI v) M = some (pSignN t p (v + 1) m, M) := by
      unfold f_T_signAt_46
      rw [nI_inc]
      exact ih (v + 1) f (by omega) (by omega)
    have e1 : ¬ (28 : Int32) ≤ nI v := nI_ge (a := v) (b := 28) hv28 (by decide)
    simp only [f_T_signAt_2, xval]
    rw [if_neg e1, if_pos (xin_nI hv28 (by decide)), nI_clamp (by omega), if_pos hv28]
    simp only [pSg_eq v hv28]
    rw [pSignN]
    cases hs : pSg v with
    | false => rw [if_pos rfl, hgo]; rfl
    | true =>
      rw [if_neg (by decide), if_pos (xin_nI hv28 (by decide)), if_pos hv28, p_holds h hv28 hp]
      simp only [xbind, bI_0]
      cases hh : pHolds t (pT v) p with
      | false => rw [if_pos rfl, hgo]; rfl
      | true =>
        rw [if_neg (by decide), if_pos (xin_nI hv28 (by decide)), if_pos hv28]
        rfl
theorem p_signAt {M : xMem} {b : Nat} {t : List Nat} (h : pTx M b t) {p : Nat} (hp : p < 1000) : f_T_signAt b (nI p) M = some (pSign t p, M) := p_signAt_2 h hp 28 0 2000 (by omega) (by omega)
