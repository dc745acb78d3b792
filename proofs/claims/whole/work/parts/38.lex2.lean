/-! PURE: a TOKEN's bounds; scanning -/
theorem pKwN_k (w : Int64) : ∀ (m v : Nat), pKwN w v m = 23 ∨ pKwN w v m < 8 := by
  intro m
  induction m with
  | zero => intro v; exact .inl rfl
  | succ m ih =>
    intro v
    rw [pKwN]
    split
    · rename_i h
      simp only [pKw, Bool.and_eq_true, decide_eq_true_eq] at h
      exact .inr h.1
    · exact ih (v + 1)
theorem pKwOf_w (w : Int64) : pIsW (pKwOf w) = true := by
  rcases pKwN_k w 28 0 with h | h
  · unfold pKwOf pIsW; rw [h]; rfl
  · unfold pKwOf pIsW; simp [h]
theorem pKwOf_lt (w : Int64) : pKwOf w = 23 ∨ pKwOf w < 8 := pKwN_k w 28 0
theorem pSignN_k {t : List Nat} {p : Nat} : ∀ (m v : Nat), pSignN t p v m = 27 ∨ (8 ≤ pSignN t p v m ∧ pSignN t p v m ≤ 22 ∧ pHolds t (pT (pSignN t p v m)) p = true) := by
  intro m
  induction m with
  | zero => intro v; exact .inl rfl
  | succ m ih =>
    intro v
    rw [pSignN]
    split
    · rename_i h
      simp only [pSg, Bool.and_eq_true, decide_eq_true_eq] at h
      exact .inr ⟨h.1.1, h.1.2, h.2⟩
    · exact ih (v + 1)
theorem pHoldsN_iff {t x : List Nat} {p : Nat} : ∀ (m v : Nat), pHoldsN t x p v m = true ↔ ∀ k, k < m → pc t (p + v + k) = pc x (v + k) := by
  intro m
  induction m with
  | zero => intro v; simp [pHoldsN]
  | succ m ih =>
    intro v
    rw [pHoldsN, Bool.and_eq_true, ih, beq_iff_eq]
    constructor
    · intro ⟨h1, h2⟩ k hk
      cases k with
      | zero => exact h1
      | succ k =>
        have := h2 k (by omega)
        rw [show p + (v + 1) + k = p + v + (k + 1) by omega, show v + 1 + k = v + (k + 1) by omega] at this
        exact this
    · intro h
      refine ⟨h 0 (by omega), ?_⟩
      intro k hk
      have := h (k + 1) (by omega)
      rw [show p + (v + 1) + k = p + v + (k + 1) by omega, show v + 1 + k = v + (k + 1) by omega]
      exact this
theorem pT_pos : ∀ k, k < 28 → ∀ i, i < (pT k).length → pc (pT k) i ≠ 0 := by decide
theorem pT_sg : ∀ k, k < 23 → 8 ≤ k → 1 ≤ (pT k).length := by decide
theorem pSign_end {t : List Nat} {p : Nat} (hp : p ≤ t.length) : p + (pT (pSign t p)).length ≤ t.length ∧ (pSign t p ≠ 27 → p < p + (pT (pSign t p)).length) ∧ pSign t p < 28 ∧ pSign t p ≠ 26 ∧ 8 ≤ pSign t p ∧ pSign t p ≠ 23 ∧ pSign t p ≠ 24 ∧ pSign t p ≠ 25 := by
  rcases pSignN_k (t := t) (p := p) 28 0 with h | ⟨h1, h2, h3⟩
  · have h : pSign t p = 27 := h
    rw [h]
    exact ⟨by show p + 0 ≤ _; omega, fun e => absurd rfl e, by omega, by omega, by omega, by omega, by omega, by omega⟩
  · have h1 : 8 ≤ pSign t p := h1
    have h2 : pSign t p ≤ 22 := h2
    have h3 : pHolds t (pT (pSign t p)) p = true := h3
    have l := pT_sg (pSign t p) (by omega) h1
    have := (pHoldsN_iff _ 0).mp h3 ((pT (pSign t p)).length - 1) (by omega)
    have n := pT_pos (pSign t p) (by omega) (0 + ((pT (pSign t p)).length - 1)) (by omega)
    rw [← this] at n
    refine ⟨?_, fun _ => by omega, by omega, by omega, h1, by omega, by omega, by omega⟩
    by_cases q : p + (pT (pSign t p)).length ≤ t.length
    · exact q
    · exact absurd (pc_end (by omega)) n
theorem pScan_ge {f : Nat → Bool} {t : List Nat} {k : Nat} : k ≤ pScan f t k := by unfold pScan; omega
theorem pTextEnd_le {t : List Nat} {p : Nat} (hp : p < t.length) : p ≤ pTextEnd t p ∧ pTextEnd t p ≤ t.length := by
  unfold pTextEnd
  have h1 := pScan_ge (f := pIn) (t := t) (k := p + 1)
  have h2 := pScan_le (f := pIn) (t := t) (k := p + 1) (by omega)
  split
  · rename_i h
    by_cases q : pScan pIn t (p + 1) < t.length
    · omega
    · rw [pc_end (by omega)] at h; exact absurd h (by decide)
  · omega
theorem pTok_ok {t : List Nat} {p : Nat} (hp : p ≤ t.length) : p ≤ (pTok t p).2 ∧ (pTok t p).2 ≤ t.length ∧ (pTok t p).1 < 28 ∧ (pClosing (pTok t p).1 = false → p < (pTok t p).2) := by
  unfold pTok
  split
  · exact ⟨Nat.le_refl _, hp, by show 26 < 28; omega, fun h => absurd (show pClosing 26 = false from h) (by decide)⟩
  have hp' : p < t.length := by omega
  split
  · rename_i h
    have h1 := pScan_ge (f := pWordC) (t := t) (k := p)
    have h2 := pScan_le (f := pWordC) (t := t) (k := p) hp
    have h3 := pKwOf_lt (pOct t p (pScan pWordC t p))
    have h4 : p < pScan pWordC t p := by
      rw [pScan_go hp' (by unfold pWordC; rw [h]; rfl)]
      have := pScan_ge (f := pWordC) (t := t) (k := p + 1); omega
    exact ⟨h1, h2, by dsimp only; omega, fun _ => h4⟩
  split
  · rename_i h
    have h1 := pScan_ge (f := pDigit) (t := t) (k := p)
    have h2 := pScan_le (f := pDigit) (t := t) (k := p) hp
    have h4 : p < pScan pDigit t p := by
      rw [pScan_go hp' h]
      have := pScan_ge (f := pDigit) (t := t) (k := p + 1); omega
    exact ⟨h1, h2, by show 24 < 28; omega, fun _ => h4⟩
  split
  · have h1 := pTextEnd_le hp'
    refine ⟨h1.1, h1.2, by dsimp only; split <;> omega, ?_⟩
    dsimp only
    split
    · intro _; assumption
    · intro e; exact absurd e (by decide)
  · have h1 := pSign_end hp
    refine ⟨by dsimp only; omega, h1.1, h1.2.2.1, ?_⟩
    intro e
    refine h1.2.1 ?_
    intro e2
    dsimp only at e
    rw [e2] at e
    exact absurd e (by decide)
theorem pWdN_le {t : List Nat} {T : List (Nat × Nat × Nat)} {i : Nat} : ∀ (m v : Nat), v + m = i → v ≤ pWdN t T i v m ∧ pWdN t T i v m ≤ i := by
  intro m
  induction m with
  | zero => intro v h; rw [pWdN]; omega
  | succ m ih =>
    intro v h
    rw [pWdN]
    split
    · omega
    · have := ih (v + 1) (by omega); omega
theorem p_noteWord_56 {M : xMem} {b : Nat} {t : List Nat} {T : List (Nat × Nat × Nat)} {n : Nat} (h : pTx M b t) (hn : M.1 (b + 2) 6 = nI n) (h60 : n ≤ 60) (hs : ∀ i, i ≤ n → M.1 (b + 4) i = nI (pS T i) ∧ M.1 (b + 5) i = nI (pE T i) ∧ pS T i ≤ pE T i ∧ pE T i ≤ 160) : ∀ (m v fuel : Nat), v + m = n → m < fuel → f_T_noteWord_56 b fuel (nI (pE T n - pS T n)) (nI v) M = some ((), if pWdN t T n v m < n then wI M (b + 7) n (nI (pWdN t T n v m)) else M) := by
  intro m
  induction m with
  | zero =>
    intro v fuel hv hf
    obtain ⟨f, rfl⟩ : ∃ f, fuel = f + 1 := ⟨fuel - 1, by omega⟩
    have : v = n := by omega
    subst this
    rw [f_T_noteWord_56, pWdN]
    simp (disch := omega) only [↓reduceIte, nI_leT, nI_leF, nI_ltT, nI_ltF, nI_eqT, nI_eqF, xin_T, nI_clampT, nI_add, nI_inc, pk_subT, xb_some, xval, xlet, mI_s, mI_n, mI_k, mI_2, mJ_1, mJ_s, mJ_n, mJ_k, mJ_2, mT_1, mT_2, mT_s, mT_n, mT_k, mT_3, mR_1, mR_2, mR_3, bI_0, bI_1, bI_n0, bI_n1, Bool.true_eq_false, Bool.false_eq_true, eq_self, i_0, i_1, i_2, i_3, i_4, i_5, i_6, i_7, i_8, i_9, i_10, i_11, i_12, i_13, i_14, i_15, i_16, i_17, i_18, i_19, i_20, i_21, i_22, i_23, i_24, i_25, i_26, i_27, i_28, i_29, i_30, i_31, i_32, i_33, i_34, i_35, i_36, i_37, i_38, i_39, i_40, i_41, i_42, i_43, i_44, i_45, i_48, i_49, i_57, i_59, i_60, i_61, i_62, i_64, i_97, i_110, i_122, i_123, i_125, i_126, i_127, i_160, i_255, i_300, i_400, hn]
    rw [if_neg (by omega)]
  | succ m ih =>
    intro v fuel hv hf
    obtain ⟨f, rfl⟩ : ∃ f, fuel = f + 1 := ⟨fuel - 1, by omega⟩
    obtain ⟨s1, s2, s3, s4⟩ := hs v (by omega)
    obtain ⟨n1, n2, n3, n4⟩ := hs n (by omega)
    rw [f_T_noteWord_56, pWdN]
    have ih' := ih (v + 1) f (by omega) (by omega)
    have sp := p_samePart h (i := pS T v) (j := pS T n) (n := pE T n - pS T n) (by omega) (by omega) (by omega)
    by_cases c : pE T v - pS T v = pE T n - pS T n
    · simp (disch := omega) only [↓reduceIte, nI_leT, nI_leF, nI_ltT, nI_ltF, nI_eqT, nI_eqF, xin_T, nI_clampT, nI_add, nI_inc, pk_subT, xb_some, xval, xlet, mI_s, mI_n, mI_k, mI_2, mJ_1, mJ_s, mJ_n, mJ_k, mJ_2, mT_1, mT_2, mT_s, mT_n, mT_k, mT_3, mR_1, mR_2, mR_3, bI_0, bI_1, bI_n0, bI_n1, Bool.true_eq_false, Bool.false_eq_true, eq_self, i_0, i_1, i_2, i_3, i_4, i_5, i_6, i_7, i_8, i_9, i_10, i_11, i_12, i_13, i_14, i_15, i_16, i_17, i_18, i_19, i_20, i_21, i_22, i_23, i_24, i_25, i_26, i_27, i_28, i_29, i_30, i_31, i_32, i_33, i_34, i_35, i_36, i_37, i_38, i_39, i_40, i_41, i_42, i_43, i_44, i_45, i_48, i_49, i_57, i_59, i_60, i_61, i_62, i_64, i_97, i_110, i_122, i_123, i_125, i_126, i_127, i_160, i_255, i_300, i_400, hn, s1, s2, n1, n2, c, sp]
      by_cases c2 : pSameN t (pS T v) (pS T n) 0 (pE T n - pS T n) = true
      · have a : pAlike t T v n = true := by unfold pAlike; rw [c2, decide_eq_true c]; rfl
        simp (disch := omega) only [↓reduceIte, nI_leT, nI_leF, nI_ltT, nI_ltF, nI_eqT, nI_eqF, xin_T, nI_clampT, nI_add, nI_inc, pk_subT, xb_some, xval, xlet, mI_s, mI_n, mI_k, mI_2, mJ_1, mJ_s, mJ_n, mJ_k, mJ_2, mT_1, mT_2, mT_s, mT_n, mT_k, mT_3, mR_1, mR_2, mR_3, bI_0, bI_1, bI_n0, bI_n1, Bool.true_eq_false, Bool.false_eq_true, eq_self, i_0, i_1, i_2, i_3, i_4, i_5, i_6, i_7, i_8, i_9, i_10, i_11, i_12, i_13, i_14, i_15, i_16, i_17, i_18, i_19, i_20, i_21, i_22, i_23, i_24, i_25, i_26, i_27, i_28, i_29, i_30, i_31, i_32, i_33, i_34, i_35, i_36, i_37, i_38, i_39, i_40, i_41, i_42, i_43, i_44, i_45, i_48, i_49, i_57, i_59, i_60, i_61, i_62, i_64, i_97, i_110, i_122, i_123, i_125, i_126, i_127, i_160, i_255, i_300, i_400, c2, a]
        rw [if_pos (show v < n by omega)]
      · have c2' : pSameN t (pS T v) (pS T n) 0 (pE T n - pS T n) = false := by simpa using c2
        have a : pAlike t T v n = false := by unfold pAlike; rw [c2']; simp
        simp (disch := omega) only [↓reduceIte, nI_leT, nI_leF, nI_ltT, nI_ltF, nI_eqT, nI_eqF, xin_T, nI_clampT, nI_add, nI_inc, pk_subT, xb_some, xval, xlet, mI_s, mI_n, mI_k, mI_2, mJ_1, mJ_s, mJ_n, mJ_k, mJ_2, mT_1, mT_2, mT_s, mT_n, mT_k, mT_3, mR_1, mR_2, mR_3, bI_0, bI_1, bI_n0, bI_n1, Bool.true_eq_false, Bool.false_eq_true, eq_self, i_0, i_1, i_2, i_3, i_4, i_5, i_6, i_7, i_8, i_9, i_10, i_11, i_12, i_13, i_14, i_15, i_16, i_17, i_18, i_19, i_20, i_21, i_22, i_23, i_24, i_25, i_26, i_27, i_28, i_29, i_30, i_31, i_32, i_33, i_34, i_35, i_36, i_37, i_38, i_39, i_40, i_41, i_42, i_43, i_44, i_45, i_48, i_49, i_57, i_59, i_60, i_61, i_62, i_64, i_97, i_110, i_122, i_123, i_125, i_126, i_127, i_160, i_255, i_300, i_400, c2', a, f_T_noteWord_118]
        exact ih'
    · have a : pAlike t T v n = false := by unfold pAlike; rw [decide_eq_false c]; rfl
      simp (disch := omega) only [↓reduceIte, nI_leT, nI_leF, nI_ltT, nI_ltF, nI_eqT, nI_eqF, xin_T, nI_clampT, nI_add, nI_inc, pk_subT, xb_some, xval, xlet, mI_s, mI_n, mI_k, mI_2, mJ_1, mJ_s, mJ_n, mJ_k, mJ_2, mT_1, mT_2, mT_s, mT_n, mT_k, mT_3, mR_1, mR_2, mR_3, bI_0, bI_1, bI_n0, bI_n1, Bool.true_eq_false, Bool.false_eq_true, eq_self, i_0, i_1, i_2, i_3, i_4, i_5, i_6, i_7, i_8, i_9, i_10, i_11, i_12, i_13, i_14, i_15, i_16, i_17, i_18, i_19, i_20, i_21, i_22, i_23, i_24, i_25, i_26, i_27, i_28, i_29, i_30, i_31, i_32, i_33, i_34, i_35, i_36, i_37, i_38, i_39, i_40, i_41, i_42, i_43, i_44, i_45, i_48, i_49, i_57, i_59, i_60, i_61, i_62, i_64, i_97, i_110, i_122, i_123, i_125, i_126, i_127, i_160, i_255, i_300, i_400, hn, s1, s2, n1, n2, a, f_T_noteWord_118]
      exact ih'
/-- the memory when TOKEN n has been put down -/
def pPut (M : xMem) (b n k s e : Nat) : xMem := wI (wJ (wI (wI (wT M (b + 3) n k) (b + 4) n (nI s)) (b + 5) n (nI e)) (b + 6) n 0) (b + 7) n (nI n)
theorem pPut_en {M : xMem} {b n k s e i : Nat} {t : List Nat} {T : List (Nat × Nat × Nat)} (h : pEn M b t T i) (hi : i < n) : pEn (pPut M b n k s e) b t T i := by
  obtain ⟨h1, h2, h3, h4, h5⟩ := h
  unfold pEn pPut
  refine ⟨?_, ?_, ?_, ?_, ?_⟩
  · simp (disch := omega) only [↓reduceIte, nI_leT, nI_leF, nI_ltT, nI_ltF, nI_eqT, nI_eqF, xin_T, nI_clampT, nI_add, nI_inc, pk_subT, xb_some, xval, xlet, mI_s, mI_n, mI_k, mI_2, mJ_1, mJ_s, mJ_n, mJ_k, mJ_2, mT_1, mT_2, mT_s, mT_n, mT_k, mT_3, mR_1, mR_2, mR_3, bI_0, bI_1, bI_n0, bI_n1, Bool.true_eq_false, Bool.false_eq_true, eq_self, i_0, i_1, i_2, i_3, i_4, i_5, i_6, i_7, i_8, i_9, i_10, i_11, i_12, i_13, i_14, i_15, i_16, i_17, i_18, i_19, i_20, i_21, i_22, i_23, i_24, i_25, i_26, i_27, i_28, i_29, i_30, i_31, i_32, i_33, i_34, i_35, i_36, i_37, i_38, i_39, i_40, i_41, i_42, i_43, i_44, i_45, i_48, i_49, i_57, i_59, i_60, i_61, i_62, i_64, i_97, i_110, i_122, i_123, i_125, i_126, i_127, i_160, i_255, i_300, i_400, h1]
  · simp (disch := omega) only [↓reduceIte, nI_leT, nI_leF, nI_ltT, nI_ltF, nI_eqT, nI_eqF, xin_T, nI_clampT, nI_add, nI_inc, pk_subT, xb_some, xval, xlet, mI_s, mI_n, mI_k, mI_2, mJ_1, mJ_s, mJ_n, mJ_k, mJ_2, mT_1, mT_2, mT_s, mT_n, mT_k, mT_3, mR_1, mR_2, mR_3, bI_0, bI_1, bI_n0, bI_n1, Bool.true_eq_false, Bool.false_eq_true, eq_self, i_0, i_1, i_2, i_3, i_4, i_5, i_6, i_7, i_8, i_9, i_10, i_11, i_12, i_13, i_14, i_15, i_16, i_17, i_18, i_19, i_20, i_21, i_22, i_23, i_24, i_25, i_26, i_27, i_28, i_29, i_30, i_31, i_32, i_33, i_34, i_35, i_36, i_37, i_38, i_39, i_40, i_41, i_42, i_43, i_44, i_45, i_48, i_49, i_57, i_59, i_60, i_61, i_62, i_64, i_97, i_110, i_122, i_123, i_125, i_126, i_127, i_160, i_255, i_300, i_400, h2]
  · simp (disch := omega) only [↓reduceIte, nI_leT, nI_leF, nI_ltT, nI_ltF, nI_eqT, nI_eqF, xin_T, nI_clampT, nI_add, nI_inc, pk_subT, xb_some, xval, xlet, mI_s, mI_n, mI_k, mI_2, mJ_1, mJ_s, mJ_n, mJ_k, mJ_2, mT_1, mT_2, mT_s, mT_n, mT_k, mT_3, mR_1, mR_2, mR_3, bI_0, bI_1, bI_n0, bI_n1, Bool.true_eq_false, Bool.false_eq_true, eq_self, i_0, i_1, i_2, i_3, i_4, i_5, i_6, i_7, i_8, i_9, i_10, i_11, i_12, i_13, i_14, i_15, i_16, i_17, i_18, i_19, i_20, i_21, i_22, i_23, i_24, i_25, i_26, i_27, i_28, i_29, i_30, i_31, i_32, i_33, i_34, i_35, i_36, i_37, i_38, i_39, i_40, i_41, i_42, i_43, i_44, i_45, i_48, i_49, i_57, i_59, i_60, i_61, i_62, i_64, i_97, i_110, i_122, i_123, i_125, i_126, i_127, i_160, i_255, i_300, i_400, h3]
  · simp (disch := omega) only [↓reduceIte, nI_leT, nI_leF, nI_ltT, nI_ltF, nI_eqT, nI_eqF, xin_T, nI_clampT, nI_add, nI_inc, pk_subT, xb_some, xval, xlet, mI_s, mI_n, mI_k, mI_2, mJ_1, mJ_s, mJ_n, mJ_k, mJ_2, mT_1, mT_2, mT_s, mT_n, mT_k, mT_3, mR_1, mR_2, mR_3, bI_0, bI_1, bI_n0, bI_n1, Bool.true_eq_false, Bool.false_eq_true, eq_self, i_0, i_1, i_2, i_3, i_4, i_5, i_6, i_7, i_8, i_9, i_10, i_11, i_12, i_13, i_14, i_15, i_16, i_17, i_18, i_19, i_20, i_21, i_22, i_23, i_24, i_25, i_26, i_27, i_28, i_29, i_30, i_31, i_32, i_33, i_34, i_35, i_36, i_37, i_38, i_39, i_40, i_41, i_42, i_43, i_44, i_45, i_48, i_49, i_57, i_59, i_60, i_61, i_62, i_64, i_97, i_110, i_122, i_123, i_125, i_126, i_127, i_160, i_255, i_300, i_400, h4]
  · simp (disch := omega) only [↓reduceIte, nI_leT, nI_leF, nI_ltT, nI_ltF, nI_eqT, nI_eqF, xin_T, nI_clampT, nI_add, nI_inc, pk_subT, xb_some, xval, xlet, mI_s, mI_n, mI_k, mI_2, mJ_1, mJ_s, mJ_n, mJ_k, mJ_2, mT_1, mT_2, mT_s, mT_n, mT_k, mT_3, mR_1, mR_2, mR_3, bI_0, bI_1, bI_n0, bI_n1, Bool.true_eq_false, Bool.false_eq_true, eq_self, i_0, i_1, i_2, i_3, i_4, i_5, i_6, i_7, i_8, i_9, i_10, i_11, i_12, i_13, i_14, i_15, i_16, i_17, i_18, i_19, i_20, i_21, i_22, i_23, i_24, i_25, i_26, i_27, i_28, i_29, i_30, i_31, i_32, i_33, i_34, i_35, i_36, i_37, i_38, i_39, i_40, i_41, i_42, i_43, i_44, i_45, i_48, i_49, i_57, i_59, i_60, i_61, i_62, i_64, i_97, i_110, i_122, i_123, i_125, i_126, i_127, i_160, i_255, i_300, i_400, h5]
theorem pPut_fr {M : xMem} {b n k s e : Nat} : pFr (b + 2) (b + 8) M (pPut M b n k s e) := by
  unfold pPut
  exact ((((pFr.T (by omega)).trans (pFr.I (by omega))).trans (pFr.I (by omega))).trans (pFr.J (by omega))).trans (pFr.I (by omega))
theorem pPut_6 {M : xMem} {b n k s e : Nat} : (pPut M b n k s e).1 (b + 2) 6 = M.1 (b + 2) 6 := by
  unfold pPut; simp (disch := omega) only [↓reduceIte, nI_leT, nI_leF, nI_ltT, nI_ltF, nI_eqT, nI_eqF, xin_T, nI_clampT, nI_add, nI_inc, pk_subT, xb_some, xval, xlet, mI_s, mI_n, mI_k, mI_2, mJ_1, mJ_s, mJ_n, mJ_k, mJ_2, mT_1, mT_2, mT_s, mT_n, mT_k, mT_3, mR_1, mR_2, mR_3, bI_0, bI_1, bI_n0, bI_n1, Bool.true_eq_false, Bool.false_eq_true, eq_self, i_0, i_1, i_2, i_3, i_4, i_5, i_6, i_7, i_8, i_9, i_10, i_11, i_12, i_13, i_14, i_15, i_16, i_17, i_18, i_19, i_20, i_21, i_22, i_23, i_24, i_25, i_26, i_27, i_28, i_29, i_30, i_31, i_32, i_33, i_34, i_35, i_36, i_37, i_38, i_39, i_40, i_41, i_42, i_43, i_44, i_45, i_48, i_49, i_57, i_59, i_60, i_61, i_62, i_64, i_97, i_110, i_122, i_123, i_125, i_126, i_127, i_160, i_255, i_300, i_400]
theorem pPut_n {M : xMem} {b n k s e : Nat} : (pPut M b n k s e).2.2.1 (b + 3) n = some k ∧ (pPut M b n k s e).1 (b + 4) n = nI s ∧ (pPut M b n k s e).1 (b + 5) n = nI e ∧ (pPut M b n k s e).2.1 (b + 6) n = 0 ∧ (pPut M b n k s e).1 (b + 7) n = nI n := by
  unfold pPut
  refine ⟨?_, ?_, ?_, ?_, ?_⟩ <;> simp (disch := omega) only [↓reduceIte, nI_leT, nI_leF, nI_ltT, nI_ltF, nI_eqT, nI_eqF, xin_T, nI_clampT, nI_add, nI_inc, pk_subT, xb_some, xval, xlet, mI_s, mI_n, mI_k, mI_2, mJ_1, mJ_s, mJ_n, mJ_k, mJ_2, mT_1, mT_2, mT_s, mT_n, mT_k, mT_3, mR_1, mR_2, mR_3, bI_0, bI_1, bI_n0, bI_n1, Bool.true_eq_false, Bool.false_eq_true, eq_self, i_0, i_1, i_2, i_3, i_4, i_5, i_6, i_7, i_8, i_9, i_10, i_11, i_12, i_13, i_14, i_15, i_16, i_17, i_18, i_19, i_20, i_21, i_22, i_23, i_24, i_25, i_26, i_27, i_28, i_29, i_30, i_31, i_32, i_33, i_34, i_35, i_36, i_37, i_38, i_39, i_40, i_41, i_42, i_43, i_44, i_45, i_48, i_49, i_57, i_59, i_60, i_61, i_62, i_64, i_97, i_110, i_122, i_123, i_125, i_126, i_127, i_160, i_255, i_300, i_400]
theorem p_put' {M : xMem} {b k s e n : Nat} (hk : k < 28) (hn : M.1 (b + 2) 6 = nI n) (h60 : n ≤ 60) : f_T_put b k (nI s) (nI e) M = some ((), pPut M b n k s e) := p_put hk hn h60
/-- TOKENS up to n - 1 lie in the memory, and n is how many -/
def pSn (M : xMem) (b : Nat) (t : List Nat) (T : List (Nat × Nat × Nat)) (n : Nat) : Prop :=
  pTx M b t ∧ M.1 (b + 2) 6 = nI n ∧ n ≤ 60 ∧ ∀ i, i < n → pEn M b t T i
theorem pPut_plain {M : xMem} {b n : Nat} {t : List Nat} {T : List (Nat × Nat × Nat)} (h : pSn M b t T n) (hw : pIsW (pK T n) = false) : ∀ i, i < n + 1 → pEn (pPut M b n (pK T n) (pS T n) (pE T n)) b t T i := by
  intro i hi
  by_cases q : i < n
  · exact pPut_en (h.2.2.2 i q) q
  · have : i = n := by omega
    subst this
    obtain ⟨a1, a2, a3, a4, a5⟩ := pPut_n (M := M) (b := b) (n := i) (k := pK T i) (s := pS T i) (e := pE T i)
    refine ⟨a1, a2, a3, ?_, ?_⟩
    · rw [a4]; unfold pOc; rw [hw]; rfl
    · rw [a5]; unfold pWd; rw [hw]; rfl
theorem p_noteWord {M : xMem} {b : Nat} {t : List Nat} {T : List (Nat × Nat × Nat)} {n : Nat} (h : pTx M b t) (hn : M.1 (b + 2) 6 = nI n) (h60 : n ≤ 60) (hs : ∀ i, i ≤ n → M.1 (b + 4) i = nI (pS T i) ∧ M.1 (b + 5) i = nI (pE T i) ∧ pS T i ≤ pE T i ∧ pE T i ≤ 160) : f_T_noteWord b M = some ((), if pWdN t T n 0 n < n then wI (wJ M (b + 6) n (pOct t (pS T n) (pE T n))) (b + 7) n (nI (pWdN t T n 0 n)) else wJ M (b + 6) n (pOct t (pS T n) (pE T n))) := by
  unfold f_T_noteWord
  obtain ⟨n1, n2, n3, n4⟩ := hs n (Nat.le_refl _)
  have o := p_octets h (p := pS T n) (e := pE T n) (by omega) n3
  simp (disch := omega) only [↓reduceIte, nI_leT, nI_leF, nI_ltT, nI_ltF, nI_eqT, nI_eqF, xin_T, nI_clampT, nI_add, nI_inc, pk_subT, xb_some, xval, xlet, mI_s, mI_n, mI_k, mI_2, mJ_1, mJ_s, mJ_n, mJ_k, mJ_2, mT_1, mT_2, mT_s, mT_n, mT_k, mT_3, mR_1, mR_2, mR_3, bI_0, bI_1, bI_n0, bI_n1, Bool.true_eq_false, Bool.false_eq_true, eq_self, i_0, i_1, i_2, i_3, i_4, i_5, i_6, i_7, i_8, i_9, i_10, i_11, i_12, i_13, i_14, i_15, i_16, i_17, i_18, i_19, i_20, i_21, i_22, i_23, i_24, i_25, i_26, i_27, i_28, i_29, i_30, i_31, i_32, i_33, i_34, i_35, i_36, i_37, i_38, i_39, i_40, i_41, i_42, i_43, i_44, i_45, i_48, i_49, i_57, i_59, i_60, i_61, i_62, i_64, i_97, i_110, i_122, i_123, i_125, i_126, i_127, i_160, i_255, i_300, i_400, hn, n1, n2, o]
  exact p_noteWord_56 (M := wJ M (b + 6) n (pOct t (pS T n) (pE T n))) h hn h60 hs n 0 2000 (by omega) (by omega)
theorem p_word_en {M : xMem} {b n : Nat} {t : List Nat} {T : List (Nat × Nat × Nat)} (h : pSn M b t T n) (hb : ∀ i, i ≤ n → pS T i ≤ pE T i ∧ pE T i ≤ 160) (hw : pIsW (pK T n) = true) : ∃ M', f_T_noteWord b (pPut M b n (pK T n) (pS T n) (pE T n)) = some ((), M') ∧ M'.1 (b + 2) 6 = nI n ∧ (∀ i, i < n + 1 → pEn M' b t T i) ∧ pFr (b + 2) (b + 8) M M' := by
  obtain ⟨h1, h2, h3, h4⟩ := h
  obtain ⟨a1, a2, a3, a4, a5⟩ := pPut_n (M := M) (b := b) (n := n) (k := pK T n) (s := pS T n) (e := pE T n)
  have hs : ∀ i, i ≤ n → (pPut M b n (pK T n) (pS T n) (pE T n)).1 (b + 4) i = nI (pS T i) ∧ (pPut M b n (pK T n) (pS T n) (pE T n)).1 (b + 5) i = nI (pE T i) ∧ pS T i ≤ pE T i ∧ pE T i ≤ 160 := by
    intro i hi
    by_cases q : i < n
    · have := pPut_en (n := n) (k := pK T n) (s := pS T n) (e := pE T n) (h4 i q) q
      exact ⟨this.2.1, this.2.2.1, hb i hi⟩
    · have : i = n := by omega
      subst this
      exact ⟨a2, a3, hb i hi⟩
  have tx : pTx (pPut M b n (pK T n) (pS T n) (pE T n)) b t := h1.fr pPut_fr (by omega)
  have e := p_noteWord tx (by rw [pPut_6]; exact h2) h3 hs
  have wl := pWdN_le (t := t) (T := T) (i := n) n 0 (by omega)
  have hw1 : pWd t T n = pWdN t T n 0 n := by unfold pWd; rw [if_pos hw]
  have ho : pOc t T n = pOct t (pS T n) (pE T n) := by unfold pOc; rw [if_pos hw]
  refine ⟨_, e, ?_, ?_, ?_⟩
  · split
    · simp (disch := omega) only [↓reduceIte, nI_leT, nI_leF, nI_ltT, nI_ltF, nI_eqT, nI_eqF, xin_T, nI_clampT, nI_add, nI_inc, pk_subT, xb_some, xval, xlet, mI_s, mI_n, mI_k, mI_2, mJ_1, mJ_s, mJ_n, mJ_k, mJ_2, mT_1, mT_2, mT_s, mT_n, mT_k, mT_3, mR_1, mR_2, mR_3, bI_0, bI_1, bI_n0, bI_n1, Bool.true_eq_false, Bool.false_eq_true, eq_self, i_0, i_1, i_2, i_3, i_4, i_5, i_6, i_7, i_8, i_9, i_10, i_11, i_12, i_13, i_14, i_15, i_16, i_17, i_18, i_19, i_20, i_21, i_22, i_23, i_24, i_25, i_26, i_27, i_28, i_29, i_30, i_31, i_32, i_33, i_34, i_35, i_36, i_37, i_38, i_39, i_40, i_41, i_42, i_43, i_44, i_45, i_48, i_49, i_57, i_59, i_60, i_61, i_62, i_64, i_97, i_110, i_122, i_123, i_125, i_126, i_127, i_160, i_255, i_300, i_400, pPut_6, h2]
    · simp (disch := omega) only [↓reduceIte, nI_leT, nI_leF, nI_ltT, nI_ltF, nI_eqT, nI_eqF, xin_T, nI_clampT, nI_add, nI_inc, pk_subT, xb_some, xval, xlet, mI_s, mI_n, mI_k, mI_2, mJ_1, mJ_s, mJ_n, mJ_k, mJ_2, mT_1, mT_2, mT_s, mT_n, mT_k, mT_3, mR_1, mR_2, mR_3, bI_0, bI_1, bI_n0, bI_n1, Bool.true_eq_false, Bool.false_eq_true, eq_self, i_0, i_1, i_2, i_3, i_4, i_5, i_6, i_7, i_8, i_9, i_10, i_11, i_12, i_13, i_14, i_15, i_16, i_17, i_18, i_19, i_20, i_21, i_22, i_23, i_24, i_25, i_26, i_27, i_28, i_29, i_30, i_31, i_32, i_33, i_34, i_35, i_36, i_37, i_38, i_39, i_40, i_41, i_42, i_43, i_44, i_45, i_48, i_49, i_57, i_59, i_60, i_61, i_62, i_64, i_97, i_110, i_122, i_123, i_125, i_126, i_127, i_160, i_255, i_300, i_400, pPut_6, h2]
  · intro i hi
    by_cases q : i < n
    · obtain ⟨c1, c2, c3, c4, c5⟩ := pPut_en (n := n) (k := pK T n) (s := pS T n) (e := pE T n) (h4 i q) q
      split
      · refine ⟨?_, ?_, ?_, ?_, ?_⟩
        · simp (disch := omega) only [↓reduceIte, nI_leT, nI_leF, nI_ltT, nI_ltF, nI_eqT, nI_eqF, xin_T, nI_clampT, nI_add, nI_inc, pk_subT, xb_some, xval, xlet, mI_s, mI_n, mI_k, mI_2, mJ_1, mJ_s, mJ_n, mJ_k, mJ_2, mT_1, mT_2, mT_s, mT_n, mT_k, mT_3, mR_1, mR_2, mR_3, bI_0, bI_1, bI_n0, bI_n1, Bool.true_eq_false, Bool.false_eq_true, eq_self, i_0, i_1, i_2, i_3, i_4, i_5, i_6, i_7, i_8, i_9, i_10, i_11, i_12, i_13, i_14, i_15, i_16, i_17, i_18, i_19, i_20, i_21, i_22, i_23, i_24, i_25, i_26, i_27, i_28, i_29, i_30, i_31, i_32, i_33, i_34, i_35, i_36, i_37, i_38, i_39, i_40, i_41, i_42, i_43, i_44, i_45, i_48, i_49, i_57, i_59, i_60, i_61, i_62, i_64, i_97, i_110, i_122, i_123, i_125, i_126, i_127, i_160, i_255, i_300, i_400, c1]
        · simp (disch := omega) only [↓reduceIte, nI_leT, nI_leF, nI_ltT, nI_ltF, nI_eqT, nI_eqF, xin_T, nI_clampT, nI_add, nI_inc, pk_subT, xb_some, xval, xlet, mI_s, mI_n, mI_k, mI_2, mJ_1, mJ_s, mJ_n, mJ_k, mJ_2, mT_1, mT_2, mT_s, mT_n, mT_k, mT_3, mR_1, mR_2, mR_3, bI_0, bI_1, bI_n0, bI_n1, Bool.true_eq_false, Bool.false_eq_true, eq_self, i_0, i_1, i_2, i_3, i_4, i_5, i_6, i_7, i_8, i_9, i_10, i_11, i_12, i_13, i_14, i_15, i_16, i_17, i_18, i_19, i_20, i_21, i_22, i_23, i_24, i_25, i_26, i_27, i_28, i_29, i_30, i_31, i_32, i_33, i_34, i_35, i_36, i_37, i_38, i_39, i_40, i_41, i_42, i_43, i_44, i_45, i_48, i_49, i_57, i_59, i_60, i_61, i_62, i_64, i_97, i_110, i_122, i_123, i_125, i_126, i_127, i_160, i_255, i_300, i_400, c2]
        · simp (disch := omega) only [↓reduceIte, nI_leT, nI_leF, nI_ltT, nI_ltF, nI_eqT, nI_eqF, xin_T, nI_clampT, nI_add, nI_inc, pk_subT, xb_some, xval, xlet, mI_s, mI_n, mI_k, mI_2, mJ_1, mJ_s, mJ_n, mJ_k, mJ_2, mT_1, mT_2, mT_s, mT_n, mT_k, mT_3, mR_1, mR_2, mR_3, bI_0, bI_1, bI_n0, bI_n1, Bool.true_eq_false, Bool.false_eq_true, eq_self, i_0, i_1, i_2, i_3, i_4, i_5, i_6, i_7, i_8, i_9, i_10, i_11, i_12, i_13, i_14, i_15, i_16, i_17, i_18, i_19, i_20, i_21, i_22, i_23, i_24, i_25, i_26, i_27, i_28, i_29, i_30, i_31, i_32, i_33, i_34, i_35, i_36, i_37, i_38, i_39, i_40, i_41, i_42, i_43, i_44, i_45, i_48, i_49, i_57, i_59, i_60, i_61, i_62, i_64, i_97, i_110, i_122, i_123, i_125, i_126, i_127, i_160, i_255, i_300, i_400, c3]
        · simp (disch := omega) only [↓reduceIte, nI_leT, nI_leF, nI_ltT, nI_ltF, nI_eqT, nI_eqF, xin_T, nI_clampT, nI_add, nI_inc, pk_subT, xb_some, xval, xlet, mI_s, mI_n, mI_k, mI_2, mJ_1, mJ_s, mJ_n, mJ_k, mJ_2, mT_1, mT_2, mT_s, mT_n, mT_k, mT_3, mR_1, mR_2, mR_3, bI_0, bI_1, bI_n0, bI_n1, Bool.true_eq_false, Bool.false_eq_true, eq_self, i_0, i_1, i_2, i_3, i_4, i_5, i_6, i_7, i_8, i_9, i_10, i_11, i_12, i_13, i_14, i_15, i_16, i_17, i_18, i_19, i_20, i_21, i_22, i_23, i_24, i_25, i_26, i_27, i_28, i_29, i_30, i_31, i_32, i_33, i_34, i_35, i_36, i_37, i_38, i_39, i_40, i_41, i_42, i_43, i_44, i_45, i_48, i_49, i_57, i_59, i_60, i_61, i_62, i_64, i_97, i_110, i_122, i_123, i_125, i_126, i_127, i_160, i_255, i_300, i_400, c4]
        · simp (disch := omega) only [↓reduceIte, nI_leT, nI_leF, nI_ltT, nI_ltF, nI_eqT, nI_eqF, xin_T, nI_clampT, nI_add, nI_inc, pk_subT, xb_some, xval, xlet, mI_s, mI_n, mI_k, mI_2, mJ_1, mJ_s, mJ_n, mJ_k, mJ_2, mT_1, mT_2, mT_s, mT_n, mT_k, mT_3, mR_1, mR_2, mR_3, bI_0, bI_1, bI_n0, bI_n1, Bool.true_eq_false, Bool.false_eq_true, eq_self, i_0, i_1, i_2, i_3, i_4, i_5, i_6, i_7, i_8, i_9, i_10, i_11, i_12, i_13, i_14, i_15, i_16, i_17, i_18, i_19, i_20, i_21, i_22, i_23, i_24, i_25, i_26, i_27, i_28, i_29, i_30, i_31, i_32, i_33, i_34, i_35, i_36, i_37, i_38, i_39, i_40, i_41, i_42, i_43, i_44, i_45, i_48, i_49, i_57, i_59, i_60, i_61, i_62, i_64, i_97, i_110, i_122, i_123, i_125, i_126, i_127, i_160, i_255, i_300, i_400, c5]
      · refine ⟨?_, ?_, ?_, ?_, ?_⟩
        · simp (disch := omega) only [↓reduceIte, nI_leT, nI_leF, nI_ltT, nI_ltF, nI_eqT, nI_eqF, xin_T, nI_clampT, nI_add, nI_inc, pk_subT, xb_some, xval, xlet, mI_s, mI_n, mI_k, mI_2, mJ_1, mJ_s, mJ_n, mJ_k, mJ_2, mT_1, mT_2, mT_s, mT_n, mT_k, mT_3, mR_1, mR_2, mR_3, bI_0, bI_1, bI_n0, bI_n1, Bool.true_eq_false, Bool.false_eq_true, eq_self, i_0, i_1, i_2, i_3, i_4, i_5, i_6, i_7, i_8, i_9, i_10, i_11, i_12, i_13, i_14, i_15, i_16, i_17, i_18, i_19, i_20, i_21, i_22, i_23, i_24, i_25, i_26, i_27, i_28, i_29, i_30, i_31, i_32, i_33, i_34, i_35, i_36, i_37, i_38, i_39, i_40, i_41, i_42, i_43, i_44, i_45, i_48, i_49, i_57, i_59, i_60, i_61, i_62, i_64, i_97, i_110, i_122, i_123, i_125, i_126, i_127, i_160, i_255, i_300, i_400, c1]
        · simp (disch := omega) only [↓reduceIte, nI_leT, nI_leF, nI_ltT, nI_ltF, nI_eqT, nI_eqF, xin_T, nI_clampT, nI_add, nI_inc, pk_subT, xb_some, xval, xlet, mI_s, mI_n, mI_k, mI_2, mJ_1, mJ_s, mJ_n, mJ_k, mJ_2, mT_1, mT_2, mT_s, mT_n, mT_k, mT_3, mR_1, mR_2, mR_3, bI_0, bI_1, bI_n0, bI_n1, Bool.true_eq_false, Bool.false_eq_true, eq_self, i_0, i_1, i_2, i_3, i_4, i_5, i_6, i_7, i_8, i_9, i_10, i_11, i_12, i_13, i_14, i_15, i_16, i_17, i_18, i_19, i_20, i_21, i_22, i_23, i_24, i_25, i_26, i_27, i_28, i_29, i_30, i_31, i_32, i_33, i_34, i_35, i_36, i_37, i_38, i_39, i_40, i_41, i_42, i_43, i_44, i_45, i_48, i_49, i_57, i_59, i_60, i_61, i_62, i_64, i_97, i_110, i_122, i_123, i_125, i_126, i_127, i_160, i_255, i_300, i_400, c2]
        · simp (disch := omega) only [↓reduceIte, nI_leT, nI_leF, nI_ltT, nI_ltF, nI_eqT, nI_eqF, xin_T, nI_clampT, nI_add, nI_inc, pk_subT, xb_some, xval, xlet, mI_s, mI_n, mI_k, mI_2, mJ_1, mJ_s, mJ_n, mJ_k, mJ_2, mT_1, mT_2, mT_s, mT_n, mT_k, mT_3, mR_1, mR_2, mR_3, bI_0, bI_1, bI_n0, bI_n1, Bool.true_eq_false, Bool.false_eq_true, eq_self, i_0, i_1, i_2, i_3, i_4, i_5, i_6, i_7, i_8, i_9, i_10, i_11, i_12, i_13, i_14, i_15, i_16, i_17, i_18, i_19, i_20, i_21, i_22, i_23, i_24, i_25, i_26, i_27, i_28, i_29, i_30, i_31, i_32, i_33, i_34, i_35, i_36, i_37, i_38, i_39, i_40, i_41, i_42, i_43, i_44, i_45, i_48, i_49, i_57, i_59, i_60, i_61, i_62, i_64, i_97, i_110, i_122, i_123, i_125, i_126, i_127, i_160, i_255, i_300, i_400, c3]
        · simp (disch := omega) only [↓reduceIte, nI_leT, nI_leF, nI_ltT, nI_ltF, nI_eqT, nI_eqF, xin_T, nI_clampT, nI_add, nI_inc, pk_subT, xb_some, xval, xlet, mI_s, mI_n, mI_k, mI_2, mJ_1, mJ_s, mJ_n, mJ_k, mJ_2, mT_1, mT_2, mT_s, mT_n, mT_k, mT_3, mR_1, mR_2, mR_3, bI_0, bI_1, bI_n0, bI_n1, Bool.true_eq_false, Bool.false_eq_true, eq_self, i_0, i_1, i_2, i_3, i_4, i_5, i_6, i_7, i_8, i_9, i_10, i_11, i_12, i_13, i_14, i_15, i_16, i_17, i_18, i_19, i_20, i_21, i_22, i_23, i_24, i_25, i_26, i_27, i_28, i_29, i_30, i_31, i_32, i_33, i_34, i_35, i_36, i_37, i_38, i_39, i_40, i_41, i_42, i_43, i_44, i_45, i_48, i_49, i_57, i_59, i_60, i_61, i_62, i_64, i_97, i_110, i_122, i_123, i_125, i_126, i_127, i_160, i_255, i_300, i_400, c4]
        · simp (disch := omega) only [↓reduceIte, nI_leT, nI_leF, nI_ltT, nI_ltF, nI_eqT, nI_eqF, xin_T, nI_clampT, nI_add, nI_inc, pk_subT, xb_some, xval, xlet, mI_s, mI_n, mI_k, mI_2, mJ_1, mJ_s, mJ_n, mJ_k, mJ_2, mT_1, mT_2, mT_s, mT_n, mT_k, mT_3, mR_1, mR_2, mR_3, bI_0, bI_1, bI_n0, bI_n1, Bool.true_eq_false, Bool.false_eq_true, eq_self, i_0, i_1, i_2, i_3, i_4, i_5, i_6, i_7, i_8, i_9, i_10, i_11, i_12, i_13, i_14, i_15, i_16, i_17, i_18, i_19, i_20, i_21, i_22, i_23, i_24, i_25, i_26, i_27, i_28, i_29, i_30, i_31, i_32, i_33, i_34, i_35, i_36, i_37, i_38, i_39, i_40, i_41, i_42, i_43, i_44, i_45, i_48, i_49, i_57, i_59, i_60, i_61, i_62, i_64, i_97, i_110, i_122, i_123, i_125, i_126, i_127, i_160, i_255, i_300, i_400, c5]
    · have : i = n := by omega
      subst this
      split
      · refine ⟨?_, ?_, ?_, ?_, ?_⟩
        · simp (disch := omega) only [↓reduceIte, nI_leT, nI_leF, nI_ltT, nI_ltF, nI_eqT, nI_eqF, xin_T, nI_clampT, nI_add, nI_inc, pk_subT, xb_some, xval, xlet, mI_s, mI_n, mI_k, mI_2, mJ_1, mJ_s, mJ_n, mJ_k, mJ_2, mT_1, mT_2, mT_s, mT_n, mT_k, mT_3, mR_1, mR_2, mR_3, bI_0, bI_1, bI_n0, bI_n1, Bool.true_eq_false, Bool.false_eq_true, eq_self, i_0, i_1, i_2, i_3, i_4, i_5, i_6, i_7, i_8, i_9, i_10, i_11, i_12, i_13, i_14, i_15, i_16, i_17, i_18, i_19, i_20, i_21, i_22, i_23, i_24, i_25, i_26, i_27, i_28, i_29, i_30, i_31, i_32, i_33, i_34, i_35, i_36, i_37, i_38, i_39, i_40, i_41, i_42, i_43, i_44, i_45, i_48, i_49, i_57, i_59, i_60, i_61, i_62, i_64, i_97, i_110, i_122, i_123, i_125, i_126, i_127, i_160, i_255, i_300, i_400, a1]
        · simp (disch := omega) only [↓reduceIte, nI_leT, nI_leF, nI_ltT, nI_ltF, nI_eqT, nI_eqF, xin_T, nI_clampT, nI_add, nI_inc, pk_subT, xb_some, xval, xlet, mI_s, mI_n, mI_k, mI_2, mJ_1, mJ_s, mJ_n, mJ_k, mJ_2, mT_1, mT_2, mT_s, mT_n, mT_k, mT_3, mR_1, mR_2, mR_3, bI_0, bI_1, bI_n0, bI_n1, Bool.true_eq_false, Bool.false_eq_true, eq_self, i_0, i_1, i_2, i_3, i_4, i_5, i_6, i_7, i_8, i_9, i_10, i_11, i_12, i_13, i_14, i_15, i_16, i_17, i_18, i_19, i_20, i_21, i_22, i_23, i_24, i_25, i_26, i_27, i_28, i_29, i_30, i_31, i_32, i_33, i_34, i_35, i_36, i_37, i_38, i_39, i_40, i_41, i_42, i_43, i_44, i_45, i_48, i_49, i_57, i_59, i_60, i_61, i_62, i_64, i_97, i_110, i_122, i_123, i_125, i_126, i_127, i_160, i_255, i_300, i_400, a2]
        · simp (disch := omega) only [↓reduceIte, nI_leT, nI_leF, nI_ltT, nI_ltF, nI_eqT, nI_eqF, xin_T, nI_clampT, nI_add, nI_inc, pk_subT, xb_some, xval, xlet, mI_s, mI_n, mI_k, mI_2, mJ_1, mJ_s, mJ_n, mJ_k, mJ_2, mT_1, mT_2, mT_s, mT_n, mT_k, mT_3, mR_1, mR_2, mR_3, bI_0, bI_1, bI_n0, bI_n1, Bool.true_eq_false, Bool.false_eq_true, eq_self, i_0, i_1, i_2, i_3, i_4, i_5, i_6, i_7, i_8, i_9, i_10, i_11, i_12, i_13, i_14, i_15, i_16, i_17, i_18, i_19, i_20, i_21, i_22, i_23, i_24, i_25, i_26, i_27, i_28, i_29, i_30, i_31, i_32, i_33, i_34, i_35, i_36, i_37, i_38, i_39, i_40, i_41, i_42, i_43, i_44, i_45, i_48, i_49, i_57, i_59, i_60, i_61, i_62, i_64, i_97, i_110, i_122, i_123, i_125, i_126, i_127, i_160, i_255, i_300, i_400, a3]
        · simp (disch := omega) only [↓reduceIte, nI_leT, nI_leF, nI_ltT, nI_ltF, nI_eqT, nI_eqF, xin_T, nI_clampT, nI_add, nI_inc, pk_subT, xb_some, xval, xlet, mI_s, mI_n, mI_k, mI_2, mJ_1, mJ_s, mJ_n, mJ_k, mJ_2, mT_1, mT_2, mT_s, mT_n, mT_k, mT_3, mR_1, mR_2, mR_3, bI_0, bI_1, bI_n0, bI_n1, Bool.true_eq_false, Bool.false_eq_true, eq_self, i_0, i_1, i_2, i_3, i_4, i_5, i_6, i_7, i_8, i_9, i_10, i_11, i_12, i_13, i_14, i_15, i_16, i_17, i_18, i_19, i_20, i_21, i_22, i_23, i_24, i_25, i_26, i_27, i_28, i_29, i_30, i_31, i_32, i_33, i_34, i_35, i_36, i_37, i_38, i_39, i_40, i_41, i_42, i_43, i_44, i_45, i_48, i_49, i_57, i_59, i_60, i_61, i_62, i_64, i_97, i_110, i_122, i_123, i_125, i_126, i_127, i_160, i_255, i_300, i_400, ho]
        · simp (disch := omega) only [↓reduceIte, nI_leT, nI_leF, nI_ltT, nI_ltF, nI_eqT, nI_eqF, xin_T, nI_clampT, nI_add, nI_inc, pk_subT, xb_some, xval, xlet, mI_s, mI_n, mI_k, mI_2, mJ_1, mJ_s, mJ_n, mJ_k, mJ_2, mT_1, mT_2, mT_s, mT_n, mT_k, mT_3, mR_1, mR_2, mR_3, bI_0, bI_1, bI_n0, bI_n1, Bool.true_eq_false, Bool.false_eq_true, eq_self, i_0, i_1, i_2, i_3, i_4, i_5, i_6, i_7, i_8, i_9, i_10, i_11, i_12, i_13, i_14, i_15, i_16, i_17, i_18, i_19, i_20, i_21, i_22, i_23, i_24, i_25, i_26, i_27, i_28, i_29, i_30, i_31, i_32, i_33, i_34, i_35, i_36, i_37, i_38, i_39, i_40, i_41, i_42, i_43, i_44, i_45, i_48, i_49, i_57, i_59, i_60, i_61, i_62, i_64, i_97, i_110, i_122, i_123, i_125, i_126, i_127, i_160, i_255, i_300, i_400, hw1]
      · refine ⟨?_, ?_, ?_, ?_, ?_⟩
        · simp (disch := omega) only [↓reduceIte, nI_leT, nI_leF, nI_ltT, nI_ltF, nI_eqT, nI_eqF, xin_T, nI_clampT, nI_add, nI_inc, pk_subT, xb_some, xval, xlet, mI_s, mI_n, mI_k, mI_2, mJ_1, mJ_s, mJ_n, mJ_k, mJ_2, mT_1, mT_2, mT_s, mT_n, mT_k, mT_3, mR_1, mR_2, mR_3, bI_0, bI_1, bI_n0, bI_n1, Bool.true_eq_false, Bool.false_eq_true, eq_self, i_0, i_1, i_2, i_3, i_4, i_5, i_6, i_7, i_8, i_9, i_10, i_11, i_12, i_13, i_14, i_15, i_16, i_17, i_18, i_19, i_20, i_21, i_22, i_23, i_24, i_25, i_26, i_27, i_28, i_29, i_30, i_31, i_32, i_33, i_34, i_35, i_36, i_37, i_38, i_39, i_40, i_41, i_42, i_43, i_44, i_45, i_48, i_49, i_57, i_59, i_60, i_61, i_62, i_64, i_97, i_110, i_122, i_123, i_125, i_126, i_127, i_160, i_255, i_300, i_400, a1]
        · simp (disch := omega) only [↓reduceIte, nI_leT, nI_leF, nI_ltT, nI_ltF, nI_eqT, nI_eqF, xin_T, nI_clampT, nI_add, nI_inc, pk_subT, xb_some, xval, xlet, mI_s, mI_n, mI_k, mI_2, mJ_1, mJ_s, mJ_n, mJ_k, mJ_2, mT_1, mT_2, mT_s, mT_n, mT_k, mT_3, mR_1, mR_2, mR_3, bI_0, bI_1, bI_n0, bI_n1, Bool.true_eq_false, Bool.false_eq_true, eq_self, i_0, i_1, i_2, i_3, i_4, i_5, i_6, i_7, i_8, i_9, i_10, i_11, i_12, i_13, i_14, i_15, i_16, i_17, i_18, i_19, i_20, i_21, i_22, i_23, i_24, i_25, i_26, i_27, i_28, i_29, i_30, i_31, i_32, i_33, i_34, i_35, i_36, i_37, i_38, i_39, i_40, i_41, i_42, i_43, i_44, i_45, i_48, i_49, i_57, i_59, i_60, i_61, i_62, i_64, i_97, i_110, i_122, i_123, i_125, i_126, i_127, i_160, i_255, i_300, i_400, a2]
        · simp (disch := omega) only [↓reduceIte, nI_leT, nI_leF, nI_ltT, nI_ltF, nI_eqT, nI_eqF, xin_T, nI_clampT, nI_add, nI_inc, pk_subT, xb_some, xval, xlet, mI_s, mI_n, mI_k, mI_2, mJ_1, mJ_s, mJ_n, mJ_k, mJ_2, mT_1, mT_2, mT_s, mT_n, mT_k, mT_3, mR_1, mR_2, mR_3, bI_0, bI_1, bI_n0, bI_n1, Bool.true_eq_false, Bool.false_eq_true, eq_self, i_0, i_1, i_2, i_3, i_4, i_5, i_6, i_7, i_8, i_9, i_10, i_11, i_12, i_13, i_14, i_15, i_16, i_17, i_18, i_19, i_20, i_21, i_22, i_23, i_24, i_25, i_26, i_27, i_28, i_29, i_30, i_31, i_32, i_33, i_34, i_35, i_36, i_37, i_38, i_39, i_40, i_41, i_42, i_43, i_44, i_45, i_48, i_49, i_57, i_59, i_60, i_61, i_62, i_64, i_97, i_110, i_122, i_123, i_125, i_126, i_127, i_160, i_255, i_300, i_400, a3]
        · simp (disch := omega) only [↓reduceIte, nI_leT, nI_leF, nI_ltT, nI_ltF, nI_eqT, nI_eqF, xin_T, nI_clampT, nI_add, nI_inc, pk_subT, xb_some, xval, xlet, mI_s, mI_n, mI_k, mI_2, mJ_1, mJ_s, mJ_n, mJ_k, mJ_2, mT_1, mT_2, mT_s, mT_n, mT_k, mT_3, mR_1, mR_2, mR_3, bI_0, bI_1, bI_n0, bI_n1, Bool.true_eq_false, Bool.false_eq_true, eq_self, i_0, i_1, i_2, i_3, i_4, i_5, i_6, i_7, i_8, i_9, i_10, i_11, i_12, i_13, i_14, i_15, i_16, i_17, i_18, i_19, i_20, i_21, i_22, i_23, i_24, i_25, i_26, i_27, i_28, i_29, i_30, i_31, i_32, i_33, i_34, i_35, i_36, i_37, i_38, i_39, i_40, i_41, i_42, i_43, i_44, i_45, i_48, i_49, i_57, i_59, i_60, i_61, i_62, i_64, i_97, i_110, i_122, i_123, i_125, i_126, i_127, i_160, i_255, i_300, i_400, ho]
        · simp (disch := omega) only [↓reduceIte, nI_leT, nI_leF, nI_ltT, nI_ltF, nI_eqT, nI_eqF, xin_T, nI_clampT, nI_add, nI_inc, pk_subT, xb_some, xval, xlet, mI_s, mI_n, mI_k, mI_2, mJ_1, mJ_s, mJ_n, mJ_k, mJ_2, mT_1, mT_2, mT_s, mT_n, mT_k, mT_3, mR_1, mR_2, mR_3, bI_0, bI_1, bI_n0, bI_n1, Bool.true_eq_false, Bool.false_eq_true, eq_self, i_0, i_1, i_2, i_3, i_4, i_5, i_6, i_7, i_8, i_9, i_10, i_11, i_12, i_13, i_14, i_15, i_16, i_17, i_18, i_19, i_20, i_21, i_22, i_23, i_24, i_25, i_26, i_27, i_28, i_29, i_30, i_31, i_32, i_33, i_34, i_35, i_36, i_37, i_38, i_39, i_40, i_41, i_42, i_43, i_44, i_45, i_48, i_49, i_57, i_59, i_60, i_61, i_62, i_64, i_97, i_110, i_122, i_123, i_125, i_126, i_127, i_160, i_255, i_300, i_400, hw1, a5]
  · split
    · exact (pPut_fr.trans (pFr.J (by omega))).trans (pFr.I (by omega))
    · exact pPut_fr.trans (pFr.J (by omega))
theorem p_scanOne {M : xMem} {b n p : Nat} {t : List Nat} {T : List (Nat × Nat × Nat)} (h : pSn M b t T n) (hb : ∀ i, i ≤ n → pS T i ≤ pE T i ∧ pE T i ≤ 160) (hp : p ≤ t.length) (hk : pK T n = (pTok t p).1) (hS : pS T n = p) (hE : pE T n = (pTok t p).2) : ∃ M', f_T_scanOne b (nI p) M = some ((), M') ∧ M'.1 (b + 2) 6 = nI n ∧ (∀ i, i < n + 1 → pEn M' b t T i) ∧ pFr (b + 2) (b + 8) M M' := by
  have h0 := h
  obtain ⟨h1, h2, h3, h4⟩ := h
  have ht := h1.1
  have hl := h1.2.1
  have la := p_L_at h1 (j := p) (by omega)
  have hc := h1.2.2.2 p
  have sm := p_isSmall (M := M) hc
  have dg := p_isDigit (M := M) hc
  unfold f_T_scanOne
  unfold pTok at hk hE
  by_cases c1 : t.length ≤ p
  · rw [if_pos c1] at hk hE
    have w : pIsW (pK T n) = false := by rw [hk]; rfl
    simp (disch := omega) only [↓reduceIte, nI_leT, nI_leF, nI_ltT, nI_ltF, nI_eqT, nI_eqF, xin_T, nI_clampT, nI_add, nI_inc, pk_subT, xb_some, xval, xlet, mI_s, mI_n, mI_k, mI_2, mJ_1, mJ_s, mJ_n, mJ_k, mJ_2, mT_1, mT_2, mT_s, mT_n, mT_k, mT_3, mR_1, mR_2, mR_3, bI_0, bI_1, bI_n0, bI_n1, Bool.true_eq_false, Bool.false_eq_true, eq_self, i_0, i_1, i_2, i_3, i_4, i_5, i_6, i_7, i_8, i_9, i_10, i_11, i_12, i_13, i_14, i_15, i_16, i_17, i_18, i_19, i_20, i_21, i_22, i_23, i_24, i_25, i_26, i_27, i_28, i_29, i_30, i_31, i_32, i_33, i_34, i_35, i_36, i_37, i_38, i_39, i_40, i_41, i_42, i_43, i_44, i_45, i_48, i_49, i_57, i_59, i_60, i_61, i_62, i_64, i_97, i_110, i_122, i_123, i_125, i_126, i_127, i_160, i_255, i_300, i_400, la, ht, p_put' (k := 26) (s := p) (e := p) (by omega) h2 h3]
    refine ⟨_, rfl, by rw [pPut_6]; exact h2, ?_, pPut_fr⟩
    have := pPut_plain h0 w
    rw [hk, hS, hE] at this
    exact this
  rw [if_neg c1] at hk hE
  by_cases c2 : pSmall (pc t p) = true
  · rw [if_pos c2] at hk hE
    have bw := p_behindWord h1 (k := p) (by omega)
    have g1 := pScan_ge (f := pWordC) (t := t) (k := p)
    have g2 := pScan_le (f := pWordC) (t := t) (k := p) hp
    have oc := p_octets h1 (p := p) (e := pScan pWordC t p) (by omega) g1
    have kl := pKwOf_lt (pOct t p (pScan pWordC t p))
    have w : pIsW (pK T n) = true := by rw [hk]; exact pKwOf_w _
    have k28 : pKwOf (pOct t p (pScan pWordC t p)) < 28 := by omega
    obtain ⟨M', e1, e2⟩ := p_word_en h0 hb w
    rw [hk, hS, hE] at e1
    dsimp only at e1
    simp (disch := omega) only [↓reduceIte, nI_leT, nI_leF, nI_ltT, nI_ltF, nI_eqT, nI_eqF, xin_T, nI_clampT, nI_add, nI_inc, pk_subT, xb_some, xval, xlet, mI_s, mI_n, mI_k, mI_2, mJ_1, mJ_s, mJ_n, mJ_k, mJ_2, mT_1, mT_2, mT_s, mT_n, mT_k, mT_3, mR_1, mR_2, mR_3, bI_0, bI_1, bI_n0, bI_n1, Bool.true_eq_false, Bool.false_eq_true, eq_self, i_0, i_1, i_2, i_3, i_4, i_5, i_6, i_7, i_8, i_9, i_10, i_11, i_12, i_13, i_14, i_15, i_16, i_17, i_18, i_19, i_20, i_21, i_22, i_23, i_24, i_25, i_26, i_27, i_28, i_29, i_30, i_31, i_32, i_33, i_34, i_35, i_36, i_37, i_38, i_39, i_40, i_41, i_42, i_43, i_44, i_45, i_48, i_49, i_57, i_59, i_60, i_61, i_62, i_64, i_97, i_110, i_122, i_123, i_125, i_126, i_127, i_160, i_255, i_300, i_400, la, ht, sm, c2, bw, oc, p_keywordOf, k28, p_put' (k := pKwOf (pOct t p (pScan pWordC t p))) (s := p) (e := pScan pWordC t p) k28 h2 h3, e1]
    exact ⟨M', rfl, e2⟩
  have c2' : pSmall (pc t p) = false := by simpa using c2
  rw [if_neg c2] at hk hE
  by_cases c3 : pDigit (pc t p) = true
  · rw [if_pos c3] at hk hE
    have w : pIsW (pK T n) = false := by rw [hk]; rfl
    have bn := p_behindNumber h1 (k := p) (by omega)
    have g2 := pScan_le (f := pDigit) (t := t) (k := p) hp
    simp (disch := omega) only [↓reduceIte, nI_leT, nI_leF, nI_ltT, nI_ltF, nI_eqT, nI_eqF, xin_T, nI_clampT, nI_add, nI_inc, pk_subT, xb_some, xval, xlet, mI_s, mI_n, mI_k, mI_2, mJ_1, mJ_s, mJ_n, mJ_k, mJ_2, mT_1, mT_2, mT_s, mT_n, mT_k, mT_3, mR_1, mR_2, mR_3, bI_0, bI_1, bI_n0, bI_n1, Bool.true_eq_false, Bool.false_eq_true, eq_self, i_0, i_1, i_2, i_3, i_4, i_5, i_6, i_7, i_8, i_9, i_10, i_11, i_12, i_13, i_14, i_15, i_16, i_17, i_18, i_19, i_20, i_21, i_22, i_23, i_24, i_25, i_26, i_27, i_28, i_29, i_30, i_31, i_32, i_33, i_34, i_35, i_36, i_37, i_38, i_39, i_40, i_41, i_42, i_43, i_44, i_45, i_48, i_49, i_57, i_59, i_60, i_61, i_62, i_64, i_97, i_110, i_122, i_123, i_125, i_126, i_127, i_160, i_255, i_300, i_400, la, ht, sm, c2', dg, c3, bn, p_put' (k := 24) (s := p) (e := pScan pDigit t p) (by omega) h2 h3]
    refine ⟨_, rfl, by rw [pPut_6]; exact h2, ?_, pPut_fr⟩
    have := pPut_plain h0 w
    rw [hk, hS, hE] at this
    exact this
  have c3' : pDigit (pc t p) = false := by simpa using c3
  rw [if_neg c3] at hk hE
  by_cases c4 : pc t p = 39
  · rw [if_pos c4] at hk hE
    have bt := p_behindText h1 (k := p) (by omega)
    have g := pTextEnd_le (t := t) (p := p) (by omega)
    rw [c4] at la sm dg
    rw [c4] at c2' c3'
    have w : pIsW (pK T n) = false := by rw [hk]; dsimp only; split <;> rfl
    by_cases c5 : p < pTextEnd t p
    · simp (disch := omega) only [↓reduceIte, nI_leT, nI_leF, nI_ltT, nI_ltF, nI_eqT, nI_eqF, xin_T, nI_clampT, nI_add, nI_inc, pk_subT, xb_some, xval, xlet, mI_s, mI_n, mI_k, mI_2, mJ_1, mJ_s, mJ_n, mJ_k, mJ_2, mT_1, mT_2, mT_s, mT_n, mT_k, mT_3, mR_1, mR_2, mR_3, bI_0, bI_1, bI_n0, bI_n1, Bool.true_eq_false, Bool.false_eq_true, eq_self, i_0, i_1, i_2, i_3, i_4, i_5, i_6, i_7, i_8, i_9, i_10, i_11, i_12, i_13, i_14, i_15, i_16, i_17, i_18, i_19, i_20, i_21, i_22, i_23, i_24, i_25, i_26, i_27, i_28, i_29, i_30, i_31, i_32, i_33, i_34, i_35, i_36, i_37, i_38, i_39, i_40, i_41, i_42, i_43, i_44, i_45, i_48, i_49, i_57, i_59, i_60, i_61, i_62, i_64, i_97, i_110, i_122, i_123, i_125, i_126, i_127, i_160, i_255, i_300, i_400, la, ht, sm, c2', dg, c3', bt, f_T_scanOne_129, p_put' (k := 25) (s := p) (e := pTextEnd t p) (by omega) h2 h3]
      refine ⟨_, rfl, by rw [pPut_6]; exact h2, ?_, pPut_fr⟩
      have := pPut_plain h0 w
      rw [hk, hS, hE] at this
      dsimp only at this
      rw [if_pos c5] at this
      exact this
    · simp (disch := omega) only [↓reduceIte, nI_leT, nI_leF, nI_ltT, nI_ltF, nI_eqT, nI_eqF, xin_T, nI_clampT, nI_add, nI_inc, pk_subT, xb_some, xval, xlet, mI_s, mI_n, mI_k, mI_2, mJ_1, mJ_s, mJ_n, mJ_k, mJ_2, mT_1, mT_2, mT_s, mT_n, mT_k, mT_3, mR_1, mR_2, mR_3, bI_0, bI_1, bI_n0, bI_n1, Bool.true_eq_false, Bool.false_eq_true, eq_self, i_0, i_1, i_2, i_3, i_4, i_5, i_6, i_7, i_8, i_9, i_10, i_11, i_12, i_13, i_14, i_15, i_16, i_17, i_18, i_19, i_20, i_21, i_22, i_23, i_24, i_25, i_26, i_27, i_28, i_29, i_30, i_31, i_32, i_33, i_34, i_35, i_36, i_37, i_38, i_39, i_40, i_41, i_42, i_43, i_44, i_45, i_48, i_49, i_57, i_59, i_60, i_61, i_62, i_64, i_97, i_110, i_122, i_123, i_125, i_126, i_127, i_160, i_255, i_300, i_400, la, ht, sm, c2', dg, c3', bt, f_T_scanOne_129, p_put' (k := 27) (s := p) (e := pTextEnd t p) (by omega) h2 h3]
      refine ⟨_, rfl, by rw [pPut_6]; exact h2, ?_, pPut_fr⟩
      have := pPut_plain h0 w
      rw [hk, hS, hE] at this
      dsimp only at this
      rw [if_neg c5] at this
      exact this
  · rw [if_neg c4] at hk hE
    have sg := p_signAt h1 (p := p) (by omega)
    obtain ⟨g1, g2, g3, g4, g5, g6, g7, g8⟩ := pSign_end hp
    have w : pIsW (pK T n) = false := by
      rw [hk]; unfold pIsW; simp; omega
    have js := p_JS_length (M := M) g3
    have pp := p_put' (M := M) (b := b) (n := n) (k := pSign t p) (s := p) (e := p + (pT (pSign t p)).length) g3 h2 h3
    simp (disch := omega) only [↓reduceIte, nI_leT, nI_leF, nI_ltT, nI_ltF, nI_eqT, nI_eqF, xin_T, nI_clampT, nI_add, nI_inc, pk_subT, xb_some, xval, xlet, mI_s, mI_n, mI_k, mI_2, mJ_1, mJ_s, mJ_n, mJ_k, mJ_2, mT_1, mT_2, mT_s, mT_n, mT_k, mT_3, mR_1, mR_2, mR_3, bI_0, bI_1, bI_n0, bI_n1, Bool.true_eq_false, Bool.false_eq_true, eq_self, i_0, i_1, i_2, i_3, i_4, i_5, i_6, i_7, i_8, i_9, i_10, i_11, i_12, i_13, i_14, i_15, i_16, i_17, i_18, i_19, i_20, i_21, i_22, i_23, i_24, i_25, i_26, i_27, i_28, i_29, i_30, i_31, i_32, i_33, i_34, i_35, i_36, i_37, i_38, i_39, i_40, i_41, i_42, i_43, i_44, i_45, i_48, i_49, i_57, i_59, i_60, i_61, i_62, i_64, i_97, i_110, i_122, i_123, i_125, i_126, i_127, i_160, i_255, i_300, i_400, la, ht, sm, c2', dg, c3', sg, js, pp, g3]
    refine ⟨_, rfl, by rw [pPut_6]; exact h2, ?_, pPut_fr⟩
    have := pPut_plain h0 w
    rw [hk, hS, hE] at this
    exact this
theorem pK_at {pre post : List (Nat × Nat × Nat)} {x : Nat × Nat × Nat} : pK (pre ++ x :: post) pre.length = x.1 ∧ pS (pre ++ x :: post) pre.length = x.2.1 ∧ pE (pre ++ x :: post) pre.length = x.2.2 := by
  unfold pK pS pE
  rw [List.getD_eq_getElem?_getD, List.getElem?_append_right (Nat.le_refl _)]
  simp
/-- every TOKEN lies where a text of n letters has it -/
def pIn160 (T : List (Nat × Nat × Nat)) (n : Nat) : Prop := ∀ x, x ∈ T → x.2.1 ≤ x.2.2 ∧ x.2.2 ≤ n ∧ x.1 < 28
theorem pLexN_in {t : List Nat} : ∀ (m p : Nat), p ≤ t.length → pIn160 (pLexN t m p) t.length := by
  intro m
  induction m with
  | zero =>
    intro p hp x hx
    rw [pLexN, List.mem_singleton] at hx
    subst hx
    exact ⟨Nat.le_refl _, hp, by dsimp only; split <;> omega⟩
  | succ m ih =>
    intro p hp x hx
    obtain ⟨h1, h2, h3, h4⟩ := pTok_ok hp
    rw [pLexN] at hx
    split at hx
    · rw [List.mem_singleton] at hx
      subst hx
      exact ⟨h1, h2, h3⟩
    · rcases List.mem_cons.mp hx with hx | hx
      · subst hx; exact ⟨h1, h2, h3⟩
      · exact ih _ (pScan_le h2) x hx
theorem pLexN_len {t : List Nat} : ∀ (m p : Nat), 1 ≤ (pLexN t m p).length ∧ (pLexN t m p).length ≤ m + 1 := by
  intro m
  induction m with
  | zero => intro p; rw [pLexN]; simp
  | succ m ih =>
    intro p
    rw [pLexN]
    split
    · simp
    · have := ih (pScan pBlank t (pTok t p).2)
      simp only [List.length_cons]; omega
theorem p_scan_16 {b : Nat} {t : List Nat} {T : List (Nat × Nat × Nat)} (hT : pIn160 T 160) : ∀ (m n p fuel : Nat) (M : xMem) (pre : List (Nat × Nat × Nat)), n + m = 60 → m < fuel → T = pre ++ pLexN t m p → pre.length = n → p ≤ t.length → pSn M b t T n → ∃ M', f_T_scan_16 b fuel (nI p) (nI n) M = some ((), M') ∧ M'.1 (b + 2) 6 = nI (T.length - 1) ∧ (∀ i, i < T.length → pEn M' b t T i) ∧ pFr (b + 2) (b + 8) M M' := by
  intro m
  induction m with
  | zero =>
    intro n p fuel M pre hn hf hTp hpre hp h
    obtain ⟨f, rfl⟩ : ∃ f, fuel = f + 1 := ⟨fuel - 1, by omega⟩
    have : n = 60 := by omega
    rw [pLexN] at hTp
    obtain ⟨k1, k2, k3⟩ := pK_at (pre := pre) (post := []) (x := (if p < t.length then 27 else 26, p, p))
    rw [← hTp, hpre] at k1 k2 k3
    have hlen : T.length = n + 1 := by rw [hTp, List.length_append, hpre]; rfl
    have w : pIsW (pK T n) = false := by rw [k1]; dsimp only; split <;> rfl
    have pl := pPut_plain h w
    rw [k1, k2, k3] at pl
    have h2 := h.2.1
    have ht := h.1.1
    have hl := h.1.2.1
    rw [f_T_scan_16]
    by_cases c : p < t.length
    · have pp := p_put' (M := M) (b := b) (n := n) (k := 27) (s := p) (e := p) (by omega) h2 (by omega)
      dsimp only at pl
      rw [if_pos c] at pl
      simp (disch := omega) only [↓reduceIte, nI_leT, nI_leF, nI_ltT, nI_ltF, nI_eqT, nI_eqF, xin_T, nI_clampT, nI_add, nI_inc, pk_subT, xb_some, xval, xlet, mI_s, mI_n, mI_k, mI_2, mJ_1, mJ_s, mJ_n, mJ_k, mJ_2, mT_1, mT_2, mT_s, mT_n, mT_k, mT_3, mR_1, mR_2, mR_3, bI_0, bI_1, bI_n0, bI_n1, Bool.true_eq_false, Bool.false_eq_true, eq_self, i_0, i_1, i_2, i_3, i_4, i_5, i_6, i_7, i_8, i_9, i_10, i_11, i_12, i_13, i_14, i_15, i_16, i_17, i_18, i_19, i_20, i_21, i_22, i_23, i_24, i_25, i_26, i_27, i_28, i_29, i_30, i_31, i_32, i_33, i_34, i_35, i_36, i_37, i_38, i_39, i_40, i_41, i_42, i_43, i_44, i_45, i_48, i_49, i_57, i_59, i_60, i_61, i_62, i_64, i_97, i_110, i_122, i_123, i_125, i_126, i_127, i_160, i_255, i_300, i_400, ht, f_T_scan_97, pp]
      refine ⟨_, rfl, ?_, ?_, pPut_fr⟩
      · rw [pPut_6, h2, hlen]; rfl
      · rw [hlen]; exact pl
    · have pp := p_put' (M := M) (b := b) (n := n) (k := 26) (s := p) (e := p) (by omega) h2 (by omega)
      dsimp only at pl
      rw [if_neg c] at pl
      simp (disch := omega) only [↓reduceIte, nI_leT, nI_leF, nI_ltT, nI_ltF, nI_eqT, nI_eqF, xin_T, nI_clampT, nI_add, nI_inc, pk_subT, xb_some, xval, xlet, mI_s, mI_n, mI_k, mI_2, mJ_1, mJ_s, mJ_n, mJ_k, mJ_2, mT_1, mT_2, mT_s, mT_n, mT_k, mT_3, mR_1, mR_2, mR_3, bI_0, bI_1, bI_n0, bI_n1, Bool.true_eq_false, Bool.false_eq_true, eq_self, i_0, i_1, i_2, i_3, i_4, i_5, i_6, i_7, i_8, i_9, i_10, i_11, i_12, i_13, i_14, i_15, i_16, i_17, i_18, i_19, i_20, i_21, i_22, i_23, i_24, i_25, i_26, i_27, i_28, i_29, i_30, i_31, i_32, i_33, i_34, i_35, i_36, i_37, i_38, i_39, i_40, i_41, i_42, i_43, i_44, i_45, i_48, i_49, i_57, i_59, i_60, i_61, i_62, i_64, i_97, i_110, i_122, i_123, i_125, i_126, i_127, i_160, i_255, i_300, i_400, ht, f_T_scan_97, pp]
      refine ⟨_, rfl, ?_, ?_, pPut_fr⟩
      · rw [pPut_6, h2, hlen]; rfl
      · rw [hlen]; exact pl
  | succ m ih =>
    intro n p fuel M pre hn hf hTp hpre hp h
    obtain ⟨f, rfl⟩ : ∃ f, fuel = f + 1 := ⟨fuel - 1, by omega⟩
    obtain ⟨o1, o2, o3, o4⟩ := pTok_ok hp
    have hl := h.1.2.1
    have hb : ∀ i, i ≤ n → pS T i ≤ pE T i ∧ pE T i ≤ 160 := by
      intro i hi
      by_cases q : i < T.length
      · have : T.getD i (27, 0, 0) ∈ T := by rw [List.getD_eq_getElem?_getD, List.getElem?_eq_getElem q]; exact List.getElem_mem q
        exact ⟨(hT _ this).1, (hT _ this).2.1⟩
      · unfold pS pE
        rw [List.getD_eq_getElem?_getD, List.getElem?_eq_none (by omega)]
        exact ⟨Nat.le_refl _, Nat.zero_le _⟩
    rw [pLexN] at hTp
    rw [f_T_scan_16]
    by_cases c : pClosing (pTok t p).1 = true
    · rw [if_pos c] at hTp
      obtain ⟨k1, k2, k3⟩ := pK_at (pre := pre) (post := []) (x := ((pTok t p).1, p, (pTok t p).2))
      rw [← hTp, hpre] at k1 k2 k3
      have hlen : T.length = n + 1 := by rw [hTp, List.length_append, hpre]; rfl
      obtain ⟨M1, e1, e2, e3, e4⟩ := p_scanOne h hb hp k1 k2 k3
      have ek := (e3 n (by omega)).1
      rw [k1] at ek
      have cl : f_T_isClosing (pTok t p).1 M1 = some (1, M1) := by
        unfold f_T_isClosing f_T_isClosing_14
        unfold pClosing at c
        rw [if_pos o3]
        by_cases q : (pTok t p).1 = 26
        · rw [if_pos q, if_pos o3]
        · have q2 : (pTok t p).1 = 27 := by simp [q] at c; exact c
          rw [if_neg q, if_pos q2, if_pos o3]
      refine ⟨M1, ?_, ?_, ?_, e4⟩
      · simp (disch := omega) only [↓reduceIte, nI_leT, nI_leF, nI_ltT, nI_ltF, nI_eqT, nI_eqF, xin_T, nI_clampT, nI_add, nI_inc, pk_subT, xb_some, xval, xlet, mI_s, mI_n, mI_k, mI_2, mJ_1, mJ_s, mJ_n, mJ_k, mJ_2, mT_1, mT_2, mT_s, mT_n, mT_k, mT_3, mR_1, mR_2, mR_3, bI_0, bI_1, bI_n0, bI_n1, Bool.true_eq_false, Bool.false_eq_true, eq_self, i_0, i_1, i_2, i_3, i_4, i_5, i_6, i_7, i_8, i_9, i_10, i_11, i_12, i_13, i_14, i_15, i_16, i_17, i_18, i_19, i_20, i_21, i_22, i_23, i_24, i_25, i_26, i_27, i_28, i_29, i_30, i_31, i_32, i_33, i_34, i_35, i_36, i_37, i_38, i_39, i_40, i_41, i_42, i_43, i_44, i_45, i_48, i_49, i_57, i_59, i_60, i_61, i_62, i_64, i_97, i_110, i_122, i_123, i_125, i_126, i_127, i_160, i_255, i_300, i_400, e1, e2, ek, xtok, cl, o3]
      · rw [e2, hlen]; rfl
      · rw [hlen]; exact e3
    · rw [if_neg c] at hTp
      have c' : pClosing (pTok t p).1 = false := by simpa using c
      obtain ⟨k1, k2, k3⟩ := pK_at (pre := pre) (post := pLexN t m (pScan pBlank t (pTok t p).2)) (x := ((pTok t p).1, p, (pTok t p).2))
      rw [← hTp, hpre] at k1 k2 k3
      obtain ⟨M1, e1, e2, e3, e4⟩ := p_scanOne h hb hp k1 k2 k3
      obtain ⟨ek, es, ee, _, _⟩ := e3 n (by omega)
      rw [k1] at ek
      rw [k3] at ee
      have cl : f_T_isClosing (pTok t p).1 M1 = some (0, M1) := by
        unfold f_T_isClosing
        unfold pClosing at c'
        simp only [Bool.or_eq_false_iff, beq_eq_false_iff_ne] at c'
        rw [if_pos o3, if_neg c'.1, if_neg c'.2]
      have tx1 : pTx M1 b t := h.1.fr e4 (by omega)
      have bb := p_behindBlanks tx1 (k := (pTok t p).2) (by omega)
      have sn : pSn (wI M1 (b + 2) 6 (nI (n + 1))) b t T (n + 1) := by
        refine ⟨tx1.fr (pFr.I (lo := b + 2) (hi := b + 8) (by omega)) (by omega), ?_, by omega, ?_⟩
        · simp (disch := omega) only [↓reduceIte, nI_leT, nI_leF, nI_ltT, nI_ltF, nI_eqT, nI_eqF, xin_T, nI_clampT, nI_add, nI_inc, pk_subT, xb_some, xval, xlet, mI_s, mI_n, mI_k, mI_2, mJ_1, mJ_s, mJ_n, mJ_k, mJ_2, mT_1, mT_2, mT_s, mT_n, mT_k, mT_3, mR_1, mR_2, mR_3, bI_0, bI_1, bI_n0, bI_n1, Bool.true_eq_false, Bool.false_eq_true, eq_self, i_0, i_1, i_2, i_3, i_4, i_5, i_6, i_7, i_8, i_9, i_10, i_11, i_12, i_13, i_14, i_15, i_16, i_17, i_18, i_19, i_20, i_21, i_22, i_23, i_24, i_25, i_26, i_27, i_28, i_29, i_30, i_31, i_32, i_33, i_34, i_35, i_36, i_37, i_38, i_39, i_40, i_41, i_42, i_43, i_44, i_45, i_48, i_49, i_57, i_59, i_60, i_61, i_62, i_64, i_97, i_110, i_122, i_123, i_125, i_126, i_127, i_160, i_255, i_300, i_400]
        · intro i hi
          obtain ⟨d1, d2, d3, d4, d5⟩ := e3 i hi
          refine ⟨?_, ?_, ?_, ?_, ?_⟩
          · simp (disch := omega) only [↓reduceIte, nI_leT, nI_leF, nI_ltT, nI_ltF, nI_eqT, nI_eqF, xin_T, nI_clampT, nI_add, nI_inc, pk_subT, xb_some, xval, xlet, mI_s, mI_n, mI_k, mI_2, mJ_1, mJ_s, mJ_n, mJ_k, mJ_2, mT_1, mT_2, mT_s, mT_n, mT_k, mT_3, mR_1, mR_2, mR_3, bI_0, bI_1, bI_n0, bI_n1, Bool.true_eq_false, Bool.false_eq_true, eq_self, i_0, i_1, i_2, i_3, i_4, i_5, i_6, i_7, i_8, i_9, i_10, i_11, i_12, i_13, i_14, i_15, i_16, i_17, i_18, i_19, i_20, i_21, i_22, i_23, i_24, i_25, i_26, i_27, i_28, i_29, i_30, i_31, i_32, i_33, i_34, i_35, i_36, i_37, i_38, i_39, i_40, i_41, i_42, i_43, i_44, i_45, i_48, i_49, i_57, i_59, i_60, i_61, i_62, i_64, i_97, i_110, i_122, i_123, i_125, i_126, i_127, i_160, i_255, i_300, i_400, d1]
          · simp (disch := omega) only [↓reduceIte, nI_leT, nI_leF, nI_ltT, nI_ltF, nI_eqT, nI_eqF, xin_T, nI_clampT, nI_add, nI_inc, pk_subT, xb_some, xval, xlet, mI_s, mI_n, mI_k, mI_2, mJ_1, mJ_s, mJ_n, mJ_k, mJ_2, mT_1, mT_2, mT_s, mT_n, mT_k, mT_3, mR_1, mR_2, mR_3, bI_0, bI_1, bI_n0, bI_n1, Bool.true_eq_false, Bool.false_eq_true, eq_self, i_0, i_1, i_2, i_3, i_4, i_5, i_6, i_7, i_8, i_9, i_10, i_11, i_12, i_13, i_14, i_15, i_16, i_17, i_18, i_19, i_20, i_21, i_22, i_23, i_24, i_25, i_26, i_27, i_28, i_29, i_30, i_31, i_32, i_33, i_34, i_35, i_36, i_37, i_38, i_39, i_40, i_41, i_42, i_43, i_44, i_45, i_48, i_49, i_57, i_59, i_60, i_61, i_62, i_64, i_97, i_110, i_122, i_123, i_125, i_126, i_127, i_160, i_255, i_300, i_400, d2]
          · simp (disch := omega) only [↓reduceIte, nI_leT, nI_leF, nI_ltT, nI_ltF, nI_eqT, nI_eqF, xin_T, nI_clampT, nI_add, nI_inc, pk_subT, xb_some, xval, xlet, mI_s, mI_n, mI_k, mI_2, mJ_1, mJ_s, mJ_n, mJ_k, mJ_2, mT_1, mT_2, mT_s, mT_n, mT_k, mT_3, mR_1, mR_2, mR_3, bI_0, bI_1, bI_n0, bI_n1, Bool.true_eq_false, Bool.false_eq_true, eq_self, i_0, i_1, i_2, i_3, i_4, i_5, i_6, i_7, i_8, i_9, i_10, i_11, i_12, i_13, i_14, i_15, i_16, i_17, i_18, i_19, i_20, i_21, i_22, i_23, i_24, i_25, i_26, i_27, i_28, i_29, i_30, i_31, i_32, i_33, i_34, i_35, i_36, i_37, i_38, i_39, i_40, i_41, i_42, i_43, i_44, i_45, i_48, i_49, i_57, i_59, i_60, i_61, i_62, i_64, i_97, i_110, i_122, i_123, i_125, i_126, i_127, i_160, i_255, i_300, i_400, d3]
          · simp (disch := omega) only [↓reduceIte, nI_leT, nI_leF, nI_ltT, nI_ltF, nI_eqT, nI_eqF, xin_T, nI_clampT, nI_add, nI_inc, pk_subT, xb_some, xval, xlet, mI_s, mI_n, mI_k, mI_2, mJ_1, mJ_s, mJ_n, mJ_k, mJ_2, mT_1, mT_2, mT_s, mT_n, mT_k, mT_3, mR_1, mR_2, mR_3, bI_0, bI_1, bI_n0, bI_n1, Bool.true_eq_false, Bool.false_eq_true, eq_self, i_0, i_1, i_2, i_3, i_4, i_5, i_6, i_7, i_8, i_9, i_10, i_11, i_12, i_13, i_14, i_15, i_16, i_17, i_18, i_19, i_20, i_21, i_22, i_23, i_24, i_25, i_26, i_27, i_28, i_29, i_30, i_31, i_32, i_33, i_34, i_35, i_36, i_37, i_38, i_39, i_40, i_41, i_42, i_43, i_44, i_45, i_48, i_49, i_57, i_59, i_60, i_61, i_62, i_64, i_97, i_110, i_122, i_123, i_125, i_126, i_127, i_160, i_255, i_300, i_400, d4]
          · simp (disch := omega) only [↓reduceIte, nI_leT, nI_leF, nI_ltT, nI_ltF, nI_eqT, nI_eqF, xin_T, nI_clampT, nI_add, nI_inc, pk_subT, xb_some, xval, xlet, mI_s, mI_n, mI_k, mI_2, mJ_1, mJ_s, mJ_n, mJ_k, mJ_2, mT_1, mT_2, mT_s, mT_n, mT_k, mT_3, mR_1, mR_2, mR_3, bI_0, bI_1, bI_n0, bI_n1, Bool.true_eq_false, Bool.false_eq_true, eq_self, i_0, i_1, i_2, i_3, i_4, i_5, i_6, i_7, i_8, i_9, i_10, i_11, i_12, i_13, i_14, i_15, i_16, i_17, i_18, i_19, i_20, i_21, i_22, i_23, i_24, i_25, i_26, i_27, i_28, i_29, i_30, i_31, i_32, i_33, i_34, i_35, i_36, i_37, i_38, i_39, i_40, i_41, i_42, i_43, i_44, i_45, i_48, i_49, i_57, i_59, i_60, i_61, i_62, i_64, i_97, i_110, i_122, i_123, i_125, i_126, i_127, i_160, i_255, i_300, i_400, d5]
      obtain ⟨M', i1, i2, i3, i4⟩ := ih (n + 1) (pScan pBlank t (pTok t p).2) f (wI M1 (b + 2) 6 (nI (n + 1))) (pre ++ [((pTok t p).1, p, (pTok t p).2)]) (by omega) (by omega) (by rw [hTp, List.append_assoc]; rfl) (by rw [List.length_append, hpre]; rfl) (pScan_le o2) sn
      refine ⟨M', ?_, i2, i3, (e4.trans (pFr.I (by omega))).trans i4⟩
      simp (disch := omega) only [↓reduceIte, nI_leT, nI_leF, nI_ltT, nI_ltF, nI_eqT, nI_eqF, xin_T, nI_clampT, nI_add, nI_inc, pk_subT, xb_some, xval, xlet, mI_s, mI_n, mI_k, mI_2, mJ_1, mJ_s, mJ_n, mJ_k, mJ_2, mT_1, mT_2, mT_s, mT_n, mT_k, mT_3, mR_1, mR_2, mR_3, bI_0, bI_1, bI_n0, bI_n1, Bool.true_eq_false, Bool.false_eq_true, eq_self, i_0, i_1, i_2, i_3, i_4, i_5, i_6, i_7, i_8, i_9, i_10, i_11, i_12, i_13, i_14, i_15, i_16, i_17, i_18, i_19, i_20, i_21, i_22, i_23, i_24, i_25, i_26, i_27, i_28, i_29, i_30, i_31, i_32, i_33, i_34, i_35, i_36, i_37, i_38, i_39, i_40, i_41, i_42, i_43, i_44, i_45, i_48, i_49, i_57, i_59, i_60, i_61, i_62, i_64, i_97, i_110, i_122, i_123, i_125, i_126, i_127, i_160, i_255, i_300, i_400, e1, e2, ek, ee, xtok, cl, bb, o3]
      exact i1
theorem pIn160.mono {T : List (Nat × Nat × Nat)} {n m : Nat} (h : pIn160 T n) (hm : n ≤ m) : pIn160 T m := fun x hx => ⟨(h x hx).1, Nat.le_trans (h x hx).2.1 hm, (h x hx).2.2⟩
theorem pLex_in (t : List Nat) : pIn160 (pLex t) t.length := pLexN_in 60 _ (pScan_le (Nat.zero_le _))
theorem pLex_len (t : List Nat) : 1 ≤ (pLex t).length ∧ (pLex t).length ≤ 61 := pLexN_len 60 _
/-- the TOKENS of t lie in the memory, the closing one too -/
def pLx (M : xMem) (b : Nat) (t : List Nat) : Prop := pTx M b t ∧ M.1 (b + 2) 6 = nI ((pLex t).length - 1) ∧ ∀ i, i < (pLex t).length → pEn M b t (pLex t) i
theorem p_scan {M : xMem} {b : Nat} {t : List Nat} (h : pTx M b t) : ∃ M', f_T_scan b M = some ((), M') ∧ pLx M' b t ∧ pFr (b + 2) (b + 8) M M' := by
  have f0 : pFr (b + 2) (b + 8) M (wI M (b + 2) 6 (nI 0)) := pFr.I (by omega)
  have h0 : pTx (wI M (b + 2) 6 (nI 0)) b t := h.fr f0 (by omega)
  have bb := p_behindBlanks h0 (k := 0) (by omega)
  obtain ⟨M', i1, i2, i3, i4⟩ := p_scan_16 (T := pLex t) (b := b) (t := t) ((pLex_in t).mono h.2.1) 60 0 (pScan pBlank t 0) 2000 (wI M (b + 2) 6 (nI 0)) [] (by omega) (by omega) rfl rfl (pScan_le (Nat.zero_le _)) ⟨h0, by simp (disch := omega) only [↓reduceIte, nI_leT, nI_leF, nI_ltT, nI_ltF, nI_eqT, nI_eqF, xin_T, nI_clampT, nI_add, nI_inc, pk_subT, xb_some, xval, xlet, mI_s, mI_n, mI_k, mI_2, mJ_1, mJ_s, mJ_n, mJ_k, mJ_2, mT_1, mT_2, mT_s, mT_n, mT_k, mT_3, mR_1, mR_2, mR_3, bI_0, bI_1, bI_n0, bI_n1, Bool.true_eq_false, Bool.false_eq_true, eq_self, i_0, i_1, i_2, i_3, i_4, i_5, i_6, i_7, i_8, i_9, i_10, i_11, i_12, i_13, i_14, i_15, i_16, i_17, i_18, i_19, i_20, i_21, i_22, i_23, i_24, i_25, i_26, i_27, i_28, i_29, i_30, i_31, i_32, i_33, i_34, i_35, i_36, i_37, i_38, i_39, i_40, i_41, i_42, i_43, i_44, i_45, i_48, i_49, i_57, i_59, i_60, i_61, i_62, i_64, i_97, i_110, i_122, i_123, i_125, i_126, i_127, i_160, i_255, i_300, i_400], by omega, fun i hi => absurd hi (by omega)⟩
  refine ⟨M', ?_, ⟨h.fr (f0.trans i4) (by omega), i2, i3⟩, f0.trans i4⟩
  unfold f_T_scan
  simp (disch := omega) only [↓reduceIte, nI_leT, nI_leF, nI_ltT, nI_ltF, nI_eqT, nI_eqF, xin_T, nI_clampT, nI_add, nI_inc, pk_subT, xb_some, xval, xlet, mI_s, mI_n, mI_k, mI_2, mJ_1, mJ_s, mJ_n, mJ_k, mJ_2, mT_1, mT_2, mT_s, mT_n, mT_k, mT_3, mR_1, mR_2, mR_3, bI_0, bI_1, bI_n0, bI_n1, Bool.true_eq_false, Bool.false_eq_true, eq_self, i_0, i_1, i_2, i_3, i_4, i_5, i_6, i_7, i_8, i_9, i_10, i_11, i_12, i_13, i_14, i_15, i_16, i_17, i_18, i_19, i_20, i_21, i_22, i_23, i_24, i_25, i_26, i_27, i_28, i_29, i_30, i_31, i_32, i_33, i_34, i_35, i_36, i_37, i_38, i_39, i_40, i_41, i_42, i_43, i_44, i_45, i_48, i_49, i_57, i_59, i_60, i_61, i_62, i_64, i_97, i_110, i_122, i_123, i_125, i_126, i_127, i_160, i_255, i_300, i_400, bb]
  exact i1
