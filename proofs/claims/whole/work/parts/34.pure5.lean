/-! PURE: octets of a part of a text -/
/-- the letters i .. i + m - 1 as octets, the first the lowest -/
def pVal (t : List Nat) (i : Nat) : Nat → Nat
  | 0 => 0
  | m + 1 => pVal t (i + 1) m * 256 + pc t i
theorem pVal_lt {t : List Nat} (h : ∀ k, pc t k < 256) : ∀ (m i : Nat), pVal t i m < 256 ^ m
  | 0, i => by simp [pVal]
  | m + 1, i => by
    have h1 := pVal_lt h m (i + 1)
    have h2 := h i
    rw [pVal, Nat.pow_succ]
    omega
theorem nI_m1lt {p : Nat} (h : p < 1000) : nI p + Int32.ofInt (-1) < nI p := by
  cases p with
  | zero => decide
  | succ w =>
    have e : nI (w + 1) + Int32.ofInt (-1) = nI w := pk_m1 w
    rw [e]
    exact nI_lt (by omega) (by omega)
theorem p_octets_17 {M : xMem} {b : Nat} {t : List Nat} (h : pTx M b t) {p e : Nat} (he : e < 1000) (hpe : e - p ≤ 8) : ∀ (m w fuel : Nat), w = p + m → w ≤ e → m < fuel → f_L_octets_17 b (nI p) (nI e) fuel (lN (pVal t w (e - w))) (nI w + Int32.ofInt (-1)) M = some (lN (pVal t p (e - p)), M) := by
  intro m
  induction m with
  | zero =>
    intro w fuel hw hwe hf
    obtain ⟨f, rfl⟩ : ∃ f, fuel = f + 1 := ⟨fuel - 1, by omega⟩
    have hw : w = p := by omega
    subst hw
    simp only [f_L_octets_17]
    rw [if_pos (nI_m1lt (by omega))]
  | succ m ih =>
    intro w fuel hw hwe hf
    obtain ⟨f, rfl⟩ : ∃ f, fuel = f + 1 := ⟨fuel - 1, by omega⟩
    obtain ⟨v, rfl⟩ : ∃ v, w = v + 1 := ⟨w - 1, by omega⟩
    have e3 : nI (v + 1) + Int32.ofInt (-1) = nI v := pk_m1 v
    rw [e3]
    simp only [f_L_octets_17]
    rw [if_neg (nI_nlt (by omega) (by omega)), p_L_at h (by omega)]
    simp only [xbind]
    have hc := h.2.2.2 v
    have hlt := pVal_lt h.2.2.2 (e - (v + 1)) (v + 1)
    have hpw : 256 ^ (e - (v + 1)) ≤ 256 ^ 7 := Nat.pow_le_pow_right (by decide) (by omega)
    have e1 : lN (pVal t (v + 1) (e - (v + 1))) <<< ((8 : Int32).toInt64 &&& 63) = lN (pVal t (v + 1) (e - (v + 1)) * 256) := wb_shl (k := 8) _ (by decide)
    have e2 : (nI (pc t v)).toInt64 = lN (pc t v) := nI_l (by omega)
    rw [e1, e2, g_or (k := 8) (p := 256) (by decide) hc (by omega)]
    have e4 : pVal t v (e - v) = pVal t (v + 1) (e - (v + 1)) * 256 + pc t v := by
      rw [show e - v = (e - (v + 1)) + 1 by omega, pVal]
    rw [← e4]
    exact ih v f (by omega) (by omega) (by omega)
/-- a part's octets; 0 for more than eight -/
def pOct (t : List Nat) (p e : Nat) : Int64 := if e - p ≤ 8 then lN (pVal t p (e - p)) else 0
theorem p_octets {M : xMem} {b : Nat} {t : List Nat} (h : pTx M b t) {p e : Nat} (he : e < 1000) (hpe : p ≤ e) : f_L_octets b (nI p) (nI e) M = some (pOct t p e, M) := by
  have e0 : f_L_octets b (nI p) (nI e) M = if nI e - nI p ≤ nI 8 then f_L_octets_17 b (nI p) (nI e) 2000 (lN 0) (nI e - 1) M else some (0, M) := rfl
  rw [e0, pk_sub hpe]
  unfold pOct
  by_cases q : e - p ≤ 8
  · rw [if_pos (nI_le q (by decide)), if_pos q]
    have := p_octets_17 h he q (e - p) e 2000 (by omega) (by omega) (by omega)
    rw [Nat.sub_self] at this
    have e5 : nI e - 1 = nI e + Int32.ofInt (-1) := by
      rw [Int32.sub_eq_add_neg]; rfl
    rw [e5]
    exact this
  · rw [if_neg (nI_ge (by omega) (by omega)), if_neg q]
