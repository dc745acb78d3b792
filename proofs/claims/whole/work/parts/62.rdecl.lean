/-! PURE: words, SCOPES and declarations of the reference -/
theorem pAlike_iff {t : List Nat} {T : List (Nat × Nat × Nat)} {i j : Nat} : pAlike t T i j = true ↔ (pE T i - pS T i = pE T j - pS T j ∧ ∀ k, k < pE T j - pS T j → pc t (pS T i + k) = pc t (pS T j + k)) := by
  unfold pAlike
  rw [Bool.and_eq_true, decide_eq_true_eq, pSameN_iff]
  constructor
  · intro ⟨h1, h2⟩; exact ⟨h1, fun k hk => by have := h2 k hk; rw [Nat.add_zero, Nat.add_zero] at this; exact this⟩
  · intro ⟨h1, h2⟩; exact ⟨h1, fun k hk => by rw [Nat.add_zero, Nat.add_zero]; exact h2 k hk⟩
theorem pAlike_refl {t : List Nat} {T : List (Nat × Nat × Nat)} {i : Nat} : pAlike t T i i = true := pAlike_iff.mpr ⟨rfl, fun _ _ => rfl⟩
theorem pAlike_symm {t : List Nat} {T : List (Nat × Nat × Nat)} {i j : Nat} (h : pAlike t T i j = true) : pAlike t T j i = true := by
  obtain ⟨h1, h2⟩ := pAlike_iff.mp h
  exact pAlike_iff.mpr ⟨h1.symm, fun k hk => (h2 k (by omega)).symm⟩
theorem pAlike_trans {t : List Nat} {T : List (Nat × Nat × Nat)} {i j l : Nat} (h : pAlike t T i j = true) (h' : pAlike t T j l = true) : pAlike t T i l = true := by
  obtain ⟨h1, h2⟩ := pAlike_iff.mp h
  obtain ⟨h3, h4⟩ := pAlike_iff.mp h'
  exact pAlike_iff.mpr ⟨h1.trans h3, fun k hk => (h2 k (by omega)).trans (h4 k hk)⟩
theorem pWdN_spec {t : List Nat} {T : List (Nat × Nat × Nat)} {i : Nat} : ∀ (m v : Nat), v + m = i → pAlike t T (pWdN t T i v m) i = true ∧ ∀ w, v ≤ w → w < pWdN t T i v m → pAlike t T w i = false := by
  intro m
  induction m with
  | zero => intro v h; rw [pWdN]; exact ⟨pAlike_refl, fun w h1 h2 => by omega⟩
  | succ m ih =>
    intro v h
    rw [pWdN]
    split
    · rename_i c; exact ⟨c, fun w h1 h2 => by omega⟩
    · rename_i c
      obtain ⟨i1, i2⟩ := ih (v + 1) (by omega)
      refine ⟨i1, fun w h1 h2 => ?_⟩
      by_cases e : w = v
      · subst e; simpa using c
      · exact i2 w (by omega) h2
/-- two words are the same word if they are written alike -/
theorem wd_iff {t : List Nat} {i j : Nat} (hi : pIsW (kT t i) = true) (hj : pIsW (kT t j) = true) : wT' t i = wT' t j ↔ pAlike t (pLex t) i j = true := by
  have ei : wT' t i = pWdN t (pLex t) i 0 i := by
    unfold wT' pWd; exact if_pos hi
  have ej : wT' t j = pWdN t (pLex t) j 0 j := by
    unfold wT' pWd; exact if_pos hj
  have si := pWdN_spec (t := t) (T := pLex t) (i := i) i 0 (by omega)
  have sj := pWdN_spec (t := t) (T := pLex t) (i := j) j 0 (by omega)
  rw [ei, ej]
  constructor
  · intro h
    rw [h] at si
    exact pAlike_trans (pAlike_symm si.1) sj.1
  · intro h
    rcases Nat.lt_trichotomy (pWdN t (pLex t) i 0 i) (pWdN t (pLex t) j 0 j) with c | c | c
    · have := sj.2 _ (by omega) c
      rw [pAlike_trans si.1 h] at this; cases this
    · exact c
    · have := si.2 _ (by omega) c
      rw [pAlike_trans sj.1 (pAlike_symm h)] at this; cases this
theorem r_alike_36 {M : xMem} {b i j : Nat} {t : List Nat} (h : rLx M b t) (hi : i < nT t) (hj : j < nT t) (he : pE (pLex t) i - pS (pLex t) i = pE (pLex t) j - pS (pLex t) j) : ∀ (m v fuel : Nat), v + m = pE (pLex t) i - pS (pLex t) i → m < fuel → f_N_alike_36 b (nI i) (nI j) fuel (nI (pE (pLex t) i - pS (pLex t) i)) (nI v) M = some (bI (pSameN t (pS (pLex t) i) (pS (pLex t) j) v m), M) := by
  have hT := nT_le t
  have hl := h.1.2.1
  obtain ⟨i1, i2, i3⟩ := h.2.2.1 i hi
  obtain ⟨j1, j2, j3⟩ := h.2.2.1 j hj
  have pl := pLex_len t
  obtain ⟨a1, a2, _⟩ := pLex_in t _ (pLex_mem (i := i) (by unfold nT at hi; omega))
  obtain ⟨b1, b2, _⟩ := pLex_in t _ (pLex_mem (i := j) (by unfold nT at hj; omega))
  have a1 : pS (pLex t) i ≤ pE (pLex t) i := a1
  have a2 : pE (pLex t) i ≤ t.length := a2
  have b1 : pS (pLex t) j ≤ pE (pLex t) j := b1
  have b2 : pE (pLex t) j ≤ t.length := b2
  intro m
  induction m with
  | zero =>
    intro v fuel hv hf
    obtain ⟨f, rfl⟩ : ∃ f, fuel = f + 1 := ⟨fuel - 1, by omega⟩
    rw [f_N_alike_36, pSameN]
    simp (disch := omega) only [↓reduceIte, nI_leT, nI_leF, nI_ltT, nI_ltF, nI_eqT, nI_eqF, xin_T, nI_clampT, nI_add, nI_inc, pk_subT, xb_some, xval, xlet, mI_s, mI_n, mI_k, mI_2, mJ_1, mJ_s, mJ_n, mJ_k, mJ_2, mT_1, mT_2, mT_s, mT_n, mT_k, mT_3, mR_1, mR_2, mR_3, bI_0, bI_1, bI_n0, bI_n1, Bool.true_eq_false, Bool.false_eq_true, eq_self, i_0, i_1, i_2, i_3, i_4, i_5, i_6, i_7, i_8, i_9, i_10, i_11, i_12, i_13, i_14, i_15, i_16, i_17, i_18, i_19, i_20, i_21, i_22, i_23, i_24, i_25, i_26, i_27, i_28, i_29, i_30, i_31, i_32, i_33, i_34, i_35, i_36, i_37, i_38, i_39, i_40, i_41, i_42, i_43, i_44, i_45, i_48, i_49, i_57, i_59, i_60, i_61, i_62, i_64, i_97, i_110, i_122, i_123, i_125, i_126, i_127, i_160, i_255, i_300, i_400]
    rfl
  | succ m ih =>
    intro v fuel hv hf
    obtain ⟨f, rfl⟩ : ∃ f, fuel = f + 1 := ⟨fuel - 1, by omega⟩
    have x1 := h.1.2.2.1 (pS (pLex t) i + v) (by omega)
    have x2 := h.1.2.2.1 (pS (pLex t) j + v) (by omega)
    have z1 := h.1.2.2.2 (pS (pLex t) i + v)
    have z2 := h.1.2.2.2 (pS (pLex t) j + v)
    have ih' := ih (v + 1) f (by omega) (by omega)
    rw [f_N_alike_36, pSameN]
    by_cases c : pc t (pS (pLex t) i + v) = pc t (pS (pLex t) j + v)
    · have e : (pc t (pS (pLex t) i + v) == pc t (pS (pLex t) j + v)) = true := by rw [beq_iff_eq]; exact c
      rw [e, Bool.true_and]
      simp (disch := omega) only [↓reduceIte, nI_leT, nI_leF, nI_ltT, nI_ltF, nI_eqT, nI_eqF, xin_T, nI_clampT, nI_add, nI_inc, pk_subT, xb_some, xval, xlet, mI_s, mI_n, mI_k, mI_2, mJ_1, mJ_s, mJ_n, mJ_k, mJ_2, mT_1, mT_2, mT_s, mT_n, mT_k, mT_3, mR_1, mR_2, mR_3, bI_0, bI_1, bI_n0, bI_n1, Bool.true_eq_false, Bool.false_eq_true, eq_self, i_0, i_1, i_2, i_3, i_4, i_5, i_6, i_7, i_8, i_9, i_10, i_11, i_12, i_13, i_14, i_15, i_16, i_17, i_18, i_19, i_20, i_21, i_22, i_23, i_24, i_25, i_26, i_27, i_28, i_29, i_30, i_31, i_32, i_33, i_34, i_35, i_36, i_37, i_38, i_39, i_40, i_41, i_42, i_43, i_44, i_45, i_48, i_49, i_57, i_59, i_60, i_61, i_62, i_64, i_97, i_110, i_122, i_123, i_125, i_126, i_127, i_160, i_255, i_300, i_400, i2, j2, x1, x2]
      exact ih'
    · have e : (pc t (pS (pLex t) i + v) == pc t (pS (pLex t) j + v)) = false := by rw [beq_eq_false_iff_ne]; exact c
      rw [e, Bool.false_and]
      simp (disch := omega) only [↓reduceIte, nI_leT, nI_leF, nI_ltT, nI_ltF, nI_eqT, nI_eqF, xin_T, nI_clampT, nI_add, nI_inc, pk_subT, xb_some, xval, xlet, mI_s, mI_n, mI_k, mI_2, mJ_1, mJ_s, mJ_n, mJ_k, mJ_2, mT_1, mT_2, mT_s, mT_n, mT_k, mT_3, mR_1, mR_2, mR_3, bI_0, bI_1, bI_n0, bI_n1, Bool.true_eq_false, Bool.false_eq_true, eq_self, i_0, i_1, i_2, i_3, i_4, i_5, i_6, i_7, i_8, i_9, i_10, i_11, i_12, i_13, i_14, i_15, i_16, i_17, i_18, i_19, i_20, i_21, i_22, i_23, i_24, i_25, i_26, i_27, i_28, i_29, i_30, i_31, i_32, i_33, i_34, i_35, i_36, i_37, i_38, i_39, i_40, i_41, i_42, i_43, i_44, i_45, i_48, i_49, i_57, i_59, i_60, i_61, i_62, i_64, i_97, i_110, i_122, i_123, i_125, i_126, i_127, i_160, i_255, i_300, i_400, i2, j2, x1, x2]
      rfl
theorem r_alike {M : xMem} {b i j : Nat} {t : List Nat} (h : rLx M b t) (hi : i < nT t) (hj : j < nT t) : f_N_alike b (nI i) (nI j) M = some (bI (pAlike t (pLex t) i j), M) := by
  have hT := nT_le t
  have hl := h.1.2.1
  obtain ⟨i1, i2, i3⟩ := h.2.2.1 i hi
  obtain ⟨j1, j2, j3⟩ := h.2.2.1 j hj
  have pl := pLex_len t
  obtain ⟨a1, a2, _⟩ := pLex_in t _ (pLex_mem (i := i) (by unfold nT at hi; omega))
  obtain ⟨b1, b2, _⟩ := pLex_in t _ (pLex_mem (i := j) (by unfold nT at hj; omega))
  have a1 : pS (pLex t) i ≤ pE (pLex t) i := a1
  have a2 : pE (pLex t) i ≤ t.length := a2
  have b1 : pS (pLex t) j ≤ pE (pLex t) j := b1
  have b2 : pE (pLex t) j ≤ t.length := b2
  unfold f_N_alike pAlike
  by_cases c : pE (pLex t) i - pS (pLex t) i = pE (pLex t) j - pS (pLex t) j
  · have r := r_alike_36 h hi hj c (pE (pLex t) i - pS (pLex t) i) 0 xFuel (by omega) (by unfold xFuel; omega)
    rw [decide_eq_true c, Bool.true_and, ← c]
    simp (disch := omega) only [↓reduceIte, nI_leT, nI_leF, nI_ltT, nI_ltF, nI_eqT, nI_eqF, xin_T, nI_clampT, nI_add, nI_inc, pk_subT, xb_some, xval, xlet, mI_s, mI_n, mI_k, mI_2, mJ_1, mJ_s, mJ_n, mJ_k, mJ_2, mT_1, mT_2, mT_s, mT_n, mT_k, mT_3, mR_1, mR_2, mR_3, bI_0, bI_1, bI_n0, bI_n1, Bool.true_eq_false, Bool.false_eq_true, eq_self, i_0, i_1, i_2, i_3, i_4, i_5, i_6, i_7, i_8, i_9, i_10, i_11, i_12, i_13, i_14, i_15, i_16, i_17, i_18, i_19, i_20, i_21, i_22, i_23, i_24, i_25, i_26, i_27, i_28, i_29, i_30, i_31, i_32, i_33, i_34, i_35, i_36, i_37, i_38, i_39, i_40, i_41, i_42, i_43, i_44, i_45, i_48, i_49, i_57, i_59, i_60, i_61, i_62, i_64, i_97, i_110, i_122, i_123, i_125, i_126, i_127, i_160, i_255, i_300, i_400, i2, j2, i3, j3, c]
    rw [← c]
    exact r
  · rw [decide_eq_false c, Bool.false_and]
    have c' : pE (pLex t) j - pS (pLex t) j ≠ pE (pLex t) i - pS (pLex t) i := fun e => c e.symm
    simp (disch := omega) only [↓reduceIte, nI_leT, nI_leF, nI_ltT, nI_ltF, nI_eqT, nI_eqF, xin_T, nI_clampT, nI_add, nI_inc, pk_subT, xb_some, xval, xlet, mI_s, mI_n, mI_k, mI_2, mJ_1, mJ_s, mJ_n, mJ_k, mJ_2, mT_1, mT_2, mT_s, mT_n, mT_k, mT_3, mR_1, mR_2, mR_3, bI_0, bI_1, bI_n0, bI_n1, Bool.true_eq_false, Bool.false_eq_true, eq_self, i_0, i_1, i_2, i_3, i_4, i_5, i_6, i_7, i_8, i_9, i_10, i_11, i_12, i_13, i_14, i_15, i_16, i_17, i_18, i_19, i_20, i_21, i_22, i_23, i_24, i_25, i_26, i_27, i_28, i_29, i_30, i_31, i_32, i_33, i_34, i_35, i_36, i_37, i_38, i_39, i_40, i_41, i_42, i_43, i_44, i_45, i_48, i_49, i_57, i_59, i_60, i_61, i_62, i_64, i_97, i_110, i_122, i_123, i_125, i_126, i_127, i_160, i_255, i_300, i_400, i2, j2, i3, j3]
    rfl
theorem kT_real {t : List Nat} {i : Nat} (h : kT t i ≤ 25) : i < nT t := by
  have hl := kT_last t
  by_cases c : i < (pLex t).length
  · unfold nT at hl ⊢
    by_cases e : i = (pLex t).length - 1
    · rw [e] at h; omega
    · omega
  · have : kT t i = 27 := by unfold kT pK; rw [List.getD_eq_getElem?_getD, List.getElem?_eq_none (by omega)]; rfl
    omega
theorem isW_23 {k : Nat} (h : k = 23) : pIsW k = true := by rw [h]; rfl
theorem r_thingIn_2 {M : xMem} {b s tok : Nat} {t : List Nat} {l : List qE} (hx : rLx M b t) (h : nL M b 36 l c1) (hl : l.length ≤ 63) (hs : s < 1000) (hb : ∀ i, i < l.length → (qg l i).2.1 < 1000 ∧ kT t (qg l i).1 = 23) (hk : kT t tok = 23) : ∀ (m v fuel : Nat), v + m = l.length → m < fuel → v ≤ qFind (wT' t) l s (wT' t tok) → f_N_thingIn_2 b (nI s) (nI tok) fuel (nI v) M = some (if qFind (wT' t) l s (wT' t tok) < l.length then nI (qFind (wT' t) l s (wT' t tok)) else -1, M) := by
  have sp := q_find_spec (wd := wT' t) (l := l) (s := s) (w := wT' t tok)
  have hle := q_find_le (wT' t) l s (wT' t tok)
  have hl0 := h.1
  intro m
  induction m with
  | zero =>
    intro v fuel hv hf hq
    obtain ⟨f, rfl⟩ : ∃ f, fuel = f + 1 := ⟨fuel - 1, by omega⟩
    have : v = l.length := by omega
    subst this
    rw [f_N_thingIn_2, if_neg (show ¬ qFind (wT' t) l s (wT' t tok) < l.length by omega)]
    simp (disch := omega) only [↓reduceIte, nI_leT, nI_leF, nI_ltT, nI_ltF, nI_eqT, nI_eqF, xin_T, nI_clampT, nI_add, nI_inc, pk_subT, xb_some, xval, xlet, mI_s, mI_n, mI_k, mI_2, mJ_1, mJ_s, mJ_n, mJ_k, mJ_2, mT_1, mT_2, mT_s, mT_n, mT_k, mT_3, mR_1, mR_2, mR_3, bI_0, bI_1, bI_n0, bI_n1, Bool.true_eq_false, Bool.false_eq_true, eq_self, i_0, i_1, i_2, i_3, i_4, i_5, i_6, i_7, i_8, i_9, i_10, i_11, i_12, i_13, i_14, i_15, i_16, i_17, i_18, i_19, i_20, i_21, i_22, i_23, i_24, i_25, i_26, i_27, i_28, i_29, i_30, i_31, i_32, i_33, i_34, i_35, i_36, i_37, i_38, i_39, i_40, i_41, i_42, i_43, i_44, i_45, i_48, i_49, i_57, i_59, i_60, i_61, i_62, i_64, i_97, i_110, i_122, i_123, i_125, i_126, i_127, i_160, i_255, i_300, i_400, hl0]
  | succ m ih =>
    intro v fuel hv hf hq
    obtain ⟨f, rfl⟩ : ∃ f, fuel = f + 1 := ⟨fuel - 1, by omega⟩
    have hv' : v < l.length := by omega
    have e18 : M.1 (b + 18) v = nI (qg l v).1 := h.2 (18, fun e => nI e.1) (by simp [c1]) v hv'
    have e19 : M.1 (b + 19) v = nI (qg l v).2.1 := h.2 (19, fun e => nI e.2.1) (by simp [c1]) v hv'
    obtain ⟨b1, b2⟩ := hb v hv'
    have r1 := kT_real (t := t) (i := (qg l v).1) (by omega)
    have r2 := kT_real (t := t) (i := tok) (by omega)
    have al := r_alike hx r1 r2
    have wi := wd_iff (isW_23 b2) (isW_23 hk)
    rw [f_N_thingIn_2]
    by_cases c : v = qFind (wT' t) l s (wT' t tok)
    · subst c
      obtain ⟨s1, s2⟩ := sp.2 hv'
      have ak := wi.mp s2
      rw [if_pos hv']
      simp (disch := omega) only [↓reduceIte, nI_leT, nI_leF, nI_ltT, nI_ltF, nI_eqT, nI_eqF, xin_T, nI_clampT, nI_add, nI_inc, pk_subT, xb_some, xval, xlet, mI_s, mI_n, mI_k, mI_2, mJ_1, mJ_s, mJ_n, mJ_k, mJ_2, mT_1, mT_2, mT_s, mT_n, mT_k, mT_3, mR_1, mR_2, mR_3, bI_0, bI_1, bI_n0, bI_n1, Bool.true_eq_false, Bool.false_eq_true, eq_self, i_0, i_1, i_2, i_3, i_4, i_5, i_6, i_7, i_8, i_9, i_10, i_11, i_12, i_13, i_14, i_15, i_16, i_17, i_18, i_19, i_20, i_21, i_22, i_23, i_24, i_25, i_26, i_27, i_28, i_29, i_30, i_31, i_32, i_33, i_34, i_35, i_36, i_37, i_38, i_39, i_40, i_41, i_42, i_43, i_44, i_45, i_48, i_49, i_57, i_59, i_60, i_61, i_62, i_64, i_97, i_110, i_122, i_123, i_125, i_126, i_127, i_160, i_255, i_300, i_400, hl0, e18, e19, s1, al, ak]
    · have n := sp.1 v (by omega)
      have ih' := ih (v + 1) f (by omega) (by omega) (by omega)
      by_cases c1 : (qg l v).2.1 = s
      · have c2 : ¬ pAlike t (pLex t) (qg l v).1 tok = true := fun e => n ⟨c1, wi.mpr e⟩
        have c2' : pAlike t (pLex t) (qg l v).1 tok = false := by simpa using c2
        simp (disch := omega) only [↓reduceIte, nI_leT, nI_leF, nI_ltT, nI_ltF, nI_eqT, nI_eqF, xin_T, nI_clampT, nI_add, nI_inc, pk_subT, xb_some, xval, xlet, mI_s, mI_n, mI_k, mI_2, mJ_1, mJ_s, mJ_n, mJ_k, mJ_2, mT_1, mT_2, mT_s, mT_n, mT_k, mT_3, mR_1, mR_2, mR_3, bI_0, bI_1, bI_n0, bI_n1, Bool.true_eq_false, Bool.false_eq_true, eq_self, i_0, i_1, i_2, i_3, i_4, i_5, i_6, i_7, i_8, i_9, i_10, i_11, i_12, i_13, i_14, i_15, i_16, i_17, i_18, i_19, i_20, i_21, i_22, i_23, i_24, i_25, i_26, i_27, i_28, i_29, i_30, i_31, i_32, i_33, i_34, i_35, i_36, i_37, i_38, i_39, i_40, i_41, i_42, i_43, i_44, i_45, i_48, i_49, i_57, i_59, i_60, i_61, i_62, i_64, i_97, i_110, i_122, i_123, i_125, i_126, i_127, i_160, i_255, i_300, i_400, hl0, e18, e19, c1, al, c2', f_N_thingIn_36]
        exact ih'
      · simp (disch := omega) only [↓reduceIte, nI_leT, nI_leF, nI_ltT, nI_ltF, nI_eqT, nI_eqF, xin_T, nI_clampT, nI_add, nI_inc, pk_subT, xb_some, xval, xlet, mI_s, mI_n, mI_k, mI_2, mJ_1, mJ_s, mJ_n, mJ_k, mJ_2, mT_1, mT_2, mT_s, mT_n, mT_k, mT_3, mR_1, mR_2, mR_3, bI_0, bI_1, bI_n0, bI_n1, Bool.true_eq_false, Bool.false_eq_true, eq_self, i_0, i_1, i_2, i_3, i_4, i_5, i_6, i_7, i_8, i_9, i_10, i_11, i_12, i_13, i_14, i_15, i_16, i_17, i_18, i_19, i_20, i_21, i_22, i_23, i_24, i_25, i_26, i_27, i_28, i_29, i_30, i_31, i_32, i_33, i_34, i_35, i_36, i_37, i_38, i_39, i_40, i_41, i_42, i_43, i_44, i_45, i_48, i_49, i_57, i_59, i_60, i_61, i_62, i_64, i_97, i_110, i_122, i_123, i_125, i_126, i_127, i_160, i_255, i_300, i_400, hl0, e18, e19, f_N_thingIn_36]
        exact ih'
theorem r_thingIn {M : xMem} {b s tok : Nat} {t : List Nat} {l : List qE} (hx : rLx M b t) (h : nL M b 36 l c1) (hl : l.length ≤ 63) (hs : s < 1000) (hb : ∀ i, i < l.length → (qg l i).2.1 < 1000 ∧ kT t (qg l i).1 = 23) (hk : kT t tok = 23) : f_N_thingIn b (nI s) (nI tok) M = some (if qFind (wT' t) l s (wT' t tok) < l.length then nI (qFind (wT' t) l s (wT' t tok)) else -1, M) :=
  r_thingIn_2 hx h hl hs hb hk l.length 0 xFuel (by omega) (by unfold xFuel; omega) (by omega)
theorem r_fnAround_2 {M : xMem} {b : Nat} {p1 : Int32} {l : List qE} (h : nL M b 27 l c0) (hs : qSc l) (hl : l.length ≤ 63) : ∀ (s fuel : Nat), s < l.length → s < fuel → f_N_fnAround_2 b p1 fuel (nI s) M = some (nI (qg l s).2.2.1, M) := by
  intro s
  induction s using Nat.strongRecOn with
  | _ s ih =>
    intro fuel hsl hf
    obtain ⟨f, rfl⟩ : ∃ f, fuel = f + 1 := ⟨fuel - 1, by omega⟩
    have e17 : M.1 (b + 17) s = nI (qg l s).2.1 := h.2 (17, fun e => nI e.2.1) (by simp [c0]) s hsl
    have e15 : M.1 (b + 15) s = if (qg l s).2.2.2.1 = 0 then -1 else nI (qg l s).1 := h.2 (15, fun e => if e.2.2.2.1 = 0 then -1 else nI e.1) (by simp [c0]) s hsl
    rw [f_N_fnAround_2]
    by_cases c : s = 0
    · subst c
      rw [hs.2.1] at e17 ⊢
      dsimp only at e17 ⊢
      simp (disch := omega) only [↓reduceIte, nI_leT, nI_leF, nI_ltT, nI_ltF, nI_eqT, nI_eqF, xin_T, nI_clampT, nI_add, nI_inc, pk_subT, xb_some, xval, xlet, mI_s, mI_n, mI_k, mI_2, mJ_1, mJ_s, mJ_n, mJ_k, mJ_2, mT_1, mT_2, mT_s, mT_n, mT_k, mT_3, mR_1, mR_2, mR_3, bI_0, bI_1, bI_n0, bI_n1, Bool.true_eq_false, Bool.false_eq_true, eq_self, i_0, i_1, i_2, i_3, i_4, i_5, i_6, i_7, i_8, i_9, i_10, i_11, i_12, i_13, i_14, i_15, i_16, i_17, i_18, i_19, i_20, i_21, i_22, i_23, i_24, i_25, i_26, i_27, i_28, i_29, i_30, i_31, i_32, i_33, i_34, i_35, i_36, i_37, i_38, i_39, i_40, i_41, i_42, i_43, i_44, i_45, i_48, i_49, i_57, i_59, i_60, i_61, i_62, i_64, i_97, i_110, i_122, i_123, i_125, i_126, i_127, i_160, i_255, i_300, i_400, e17]
    · obtain ⟨p1, p2, p3, p4⟩ := hs.2.2 s (by omega) hsl
      rw [if_neg (by omega)] at e15
      by_cases c1 : (qg l s).2.1 = 1
      · rw [p3, if_pos c1]
        rw [c1] at e17
        simp (disch := omega) only [↓reduceIte, nI_leT, nI_leF, nI_ltT, nI_ltF, nI_eqT, nI_eqF, xin_T, nI_clampT, nI_add, nI_inc, pk_subT, xb_some, xval, xlet, mI_s, mI_n, mI_k, mI_2, mJ_1, mJ_s, mJ_n, mJ_k, mJ_2, mT_1, mT_2, mT_s, mT_n, mT_k, mT_3, mR_1, mR_2, mR_3, bI_0, bI_1, bI_n0, bI_n1, Bool.true_eq_false, Bool.false_eq_true, eq_self, i_0, i_1, i_2, i_3, i_4, i_5, i_6, i_7, i_8, i_9, i_10, i_11, i_12, i_13, i_14, i_15, i_16, i_17, i_18, i_19, i_20, i_21, i_22, i_23, i_24, i_25, i_26, i_27, i_28, i_29, i_30, i_31, i_32, i_33, i_34, i_35, i_36, i_37, i_38, i_39, i_40, i_41, i_42, i_43, i_44, i_45, i_48, i_49, i_57, i_59, i_60, i_61, i_62, i_64, i_97, i_110, i_122, i_123, i_125, i_126, i_127, i_160, i_255, i_300, i_400, e17]
      · have c0 : (qg l s).2.1 = 0 := by omega
        have ih' := ih (qg l s).1 p1 f (by omega) (by omega)
        rw [p3, if_neg c1]
        rw [c0] at e17
        simp (disch := omega) only [↓reduceIte, nI_leT, nI_leF, nI_ltT, nI_ltF, nI_eqT, nI_eqF, xin_T, nI_clampT, nI_add, nI_inc, pk_subT, xb_some, xval, xlet, mI_s, mI_n, mI_k, mI_2, mJ_1, mJ_s, mJ_n, mJ_k, mJ_2, mT_1, mT_2, mT_s, mT_n, mT_k, mT_3, mR_1, mR_2, mR_3, bI_0, bI_1, bI_n0, bI_n1, Bool.true_eq_false, Bool.false_eq_true, eq_self, i_0, i_1, i_2, i_3, i_4, i_5, i_6, i_7, i_8, i_9, i_10, i_11, i_12, i_13, i_14, i_15, i_16, i_17, i_18, i_19, i_20, i_21, i_22, i_23, i_24, i_25, i_26, i_27, i_28, i_29, i_30, i_31, i_32, i_33, i_34, i_35, i_36, i_37, i_38, i_39, i_40, i_41, i_42, i_43, i_44, i_45, i_48, i_49, i_57, i_59, i_60, i_61, i_62, i_64, i_97, i_110, i_122, i_123, i_125, i_126, i_127, i_160, i_255, i_300, i_400, e17, e15]
        exact ih'
theorem r_fnAround {M : xMem} {b s : Nat} {l : List qE} (h : nL M b 27 l c0) (hs : qSc l) (hl : l.length ≤ 63) (hsl : s < l.length) : f_N_fnAround b (nI s) M = some (nI (qg l s).2.2.1, M) :=
  r_fnAround_2 h hs hl s xFuel hsl (by unfold xFuel; omega)
