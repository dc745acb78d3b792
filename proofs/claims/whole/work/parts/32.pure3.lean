/-! PURE: the signs' and keywords' texts -/
def pTxt : List (List Nat) := [[108, 101, 116], [99, 111, 110, 115, 116], [118, 97, 114], [102, 110], [105, 102], [101, 108, 115, 101], [119, 104, 105, 108, 101], [114, 101, 116, 117, 114, 110], [61, 61, 61], [61, 61], [61], [43], [45], [42], [60], [33], [40], [41], [123], [125], [59], [44], [64], [], [], [], [], []]
def pT (k : Nat) : List Nat := pTxt.getD k []
theorem pT_len : ∀ k, k < 28 → (xTxt.getD k []).length = (pT k).length ∧ (pT k).length ≤ 6 := by decide
theorem pT_at : ∀ k, k < 28 → ∀ i, i < (pT k).length → (xTxt.getD k []).getD i 0 = nI (pc (pT k) i) ∧ pc (pT k) i < 128 := by decide
theorem p_JS_length {M : xMem} {k : Nat} (hk : k < 28) : f_JS_length k M = some (nI (pT k).length, M) := by
  have h := pT_len k hk
  unfold f_JS_length f_JS_coder
  rw [if_pos hk, if_pos hk, if_neg (by decide)]
  simp only [xbind]
  rw [h.1, sc_shr0 (by omega)]
theorem and255 {c : Nat} (h : c < 256) : ((nI c &&& 255).toUInt32 % 65536).toInt32 = nI c := by
  rw [sc_c2]
  have := pk_andN (n := c) (m := 255) (by omega) 8 (by decide)
  rw [this]
  congr 1
  exact Nat.mod_eq_of_lt h
theorem p_JS_charAt {M : xMem} {k i : Nat} (hk : k < 28) (hi : i < (pT k).length) : f_JS_charAt k (nI i) M = some (nI (pc (pT k) i), M) := by
  have h := pT_len k hk
  obtain ⟨h1, h2⟩ := pT_at k hk i hi
  unfold f_JS_charAt f_JS_isLatin1
  rw [if_pos hk, if_pos hk, if_neg (by decide), if_pos rfl]
  simp only [xbind]
  rw [if_neg (by decide)]
  unfold f_JL_charAt f_JS_checkIndex f_JP_checkIndex
  rw [if_pos hk, if_neg (nI_pos (by omega)), h.1, if_pos (nI_lt hi (by omega))]
  simp only [xbind]
  rw [if_pos (xin_nI hi (by omega)), nI_clamp (by omega), h1, and255 (by omega), if_pos (xnar_char (by omega))]
  dsimp only
  rw [if_pos (xnar_char (by omega))]
/-- the text holds x from place p on -/
def pHoldsN (t x : List Nat) (p : Nat) : Nat → Nat → Bool
  | _, 0 => true
  | v, m + 1 => (pc t (p + v) == pc x v) && pHoldsN t x p (v + 1) m
def pHolds (t x : List Nat) (p : Nat) : Bool := pHoldsN t x p 0 x.length
theorem p_holds_2 {M : xMem} {b : Nat} {t : List Nat} (h : pTx M b t) {k p : Nat} (hk : k < 28) (hp : p < 1000) : ∀ (m v fuel : Nat), v + m = (pT k).length → m < fuel → f_L_holds_2 b k (nI p) fuel (nI v) M = some (bI (pHoldsN t (pT k) p v m), M) := by
  have hl := (pT_len k hk).2
  intro m
  induction m with
  | zero =>
    intro v fuel hv hf
    obtain ⟨f, rfl⟩ : ∃ f, fuel = f + 1 := ⟨fuel - 1, by omega⟩
    simp only [f_L_holds_2]
    rw [if_pos hk, p_JS_length hk]
    simp only [xbind]
    rw [if_pos (nI_le (by omega) (by omega))]
    rfl
  | succ m ih =>
    intro v fuel hv hf
    obtain ⟨f, rfl⟩ : ∃ f, fuel = f + 1 := ⟨fuel - 1, by omega⟩
    simp only [f_L_holds_2]
    rw [if_pos hk, p_JS_length hk]
    simp only [xbind]
    rw [if_neg (nI_ge (by omega) (by omega)), nI_add, p_L_at h (by omega)]
    dsimp only
    rw [p_JS_charAt hk (by omega)]
    dsimp only
    have h1 := h.2.2.2 (p + v)
    have h2 := (pT_at k hk v (by omega)).2
    have e : (nI (pc t (p + v)) = nI (pc (pT k) v)) = (pc t (p + v) = pc (pT k) v) := propext (nI_eq (by omega) (by omega))
    simp only [e]
    by_cases c : pc t (p + v) = pc (pT k) v
    · rw [if_pos c, nI_inc, ih (v + 1) f (by omega) (by omega)]
      have : pHoldsN t (pT k) p v (m + 1) = pHoldsN t (pT k) p (v + 1) m := by
        rw [pHoldsN, c]; simp
      rw [this]
    · rw [if_neg c]
      have : pHoldsN t (pT k) p v (m + 1) = false := by
        rw [pHoldsN]; simp [c]
      rw [this]; rfl
theorem p_holds {M : xMem} {b : Nat} {t : List Nat} (h : pTx M b t) {k p : Nat} (hk : k < 28) (hp : p < 1000) : f_L_holds b k (nI p) M = some (bI (pHolds t (pT k) p), M) := by
  have hl := (pT_len k hk).2
  have e : f_L_holds b k (nI p) M = if k < 28 then f_L_holds_2 b k (nI p) 2000 (nI 0) M else none := rfl
  rw [e, if_pos hk]
  exact p_holds_2 h hk hp (pT k).length 0 2000 (by omega) (by omega)
