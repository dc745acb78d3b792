/-! PURE: octets of a part of a text -/
/-- the letters i .. i + m - 1 as octets, the first the lowest -/
def pVal (t : List Nat) (i : Nat) : Nat → Nat
  | 0 => 0
  | m + 1 => pVal t (i + 1) m * 256 + pc t i
theorem pVal_lt {t : List Nat} (h : ∀ k, pc t k < 256) : ∀ (m i : Nat), pVal t i m < 256 ^ m
  | 0, i => by simp [pVal]
  | m + 1, i => by
    have h1 := pVal_lt h m (i + 1)
    have h2 := h i
    rw [pVal, Nat.pow_succ]
    omega
theorem p_octets_17 {M : xMem} {b : Nat} {t : List Nat} (h : pTx M b t) {p e : Nat} (hp : 1 ≤ p) (he : e < 1000) (hpe : e - p ≤ 8) : ∀ (m v fuel : Nat), p + m = v + 1 → v < e → m < fuel → f_L_octets_17 b (nI p) (nI e) fuel (lN (pVal t (v + 1) (e - (v + 1)))) (nI v) M = some (lN (pVal t p (e - p)), M) := by
  intro m
  induction m with
  | zero =>
    intro v fuel hv hve hf
    obtain ⟨f, rfl⟩ : ∃ f, fuel = f + 1 := ⟨fuel - 1, by omega⟩
    simp only [f_L_octets_17]
    rw [if_pos (nI_lt (by omega) (by omega)), show v + 1 = p by omega]
  | succ m ih =>
    intro v fuel hv hve hf
    obtain ⟨f, rfl⟩ : ∃ f, fuel = f + 1 := ⟨fuel - 1, by omega⟩
    simp only [f_L_octets_17]
    rw [if_neg (nI_nlt (by omega) (by omega)), p_L_at h (by omega)]
    simp only [xbind]
    have hc := h.2.2.2 v
    have hlt := pVal_lt h.2.2.2 (e - (v + 1)) (v + 1)
    have hpw : 256 ^ (e - (v + 1)) ≤ 256 ^ 7 := Nat.pow_le_pow_right (by decide) (by omega)
    have e1 : lN (pVal t (v + 1) (e - (v + 1))) <<< ((8 : Int32).toInt64 &&& 63) = lN (pVal t (v + 1) (e - (v + 1)) * 256) := wb_shl (k := 8) _ (by decide)
    have e2 : (nI (pc t v)).toInt64 = lN (pc t v) := nI_l (by omega)
    have e3 : nI v + Int32.ofInt (-1) = nI (v - 1) := by
      obtain ⟨w, rfl⟩ : ∃ w, v = w + 1 := ⟨v - 1, by omega⟩
      exact pk_m1 w
    rw [e1, e2, g_or (k := 8) (p := 256) (by decide) hc (by omega), e3]
    have := ih (v - 1) f (by omega) (by omega) (by omega)
    rw [show v - 1 + 1 = v by omega] at this
    have e4 : pVal t v (e - v) = pVal t (v + 1) (e - (v + 1)) * 256 + pc t v := by
      rw [show e - v = (e - (v + 1)) + 1 by omega, pVal]
    rw [e4] at this
    exact this
