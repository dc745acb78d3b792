/-! PURE: what the reference's grammar does to its memory, one thing at a time -/
theorem rk_inj : ∀ k, k < 28 → ∀ k', k' < 28 → rk k = rk k' → k = k' := by decide
theorem rk_lt : ∀ k, k < 28 → rk k < 28 := by decide
theorem r_kind {M : xMem} {b tok : Nat} {t : List Nat} (h : rLx M b t) (ht : tok ≤ nT t) : M.1 (b + 8) tok = nI (rk (kT t tok)) ∧ M.1 (b + 9) tok = nI (pS (pLex t) tok) := by
  by_cases c : tok < nT t
  · have := h.2.2.1 tok c; exact ⟨this.1, this.2.1⟩
  · have : tok = nT t := by omega
    subst this; exact ⟨h.2.2.2.1, h.2.2.2.2⟩
theorem r_is {M : xMem} {b tok k : Nat} {t : List Nat} (h : rLx M b t) (h7 : M.1 b 7 = nI tok) (ht : tok ≤ nT t) (hk : k < 28) : f_N_is b (nI (rk k)) M = some (bI (decide (kT t tok = k)), M) := by
  have hT := nT_le t
  have e := (r_kind h ht).1
  have l1 := rk_lt _ (kT_lt t tok)
  have l2 := rk_lt k hk
  unfold f_N_is
  by_cases c : kT t tok = k
  · rw [c] at e
    rw [decide_eq_true c]
    simp (disch := omega) only [↓reduceIte, nI_leT, nI_leF, nI_ltT, nI_ltF, nI_eqT, nI_eqF, xin_T, nI_clampT, nI_add, nI_inc, pk_subT, xb_some, xval, xlet, mI_s, mI_n, mI_k, mI_2, mJ_1, mJ_s, mJ_n, mJ_k, mJ_2, mT_1, mT_2, mT_s, mT_n, mT_k, mT_3, mR_1, mR_2, mR_3, bI_0, bI_1, bI_n0, bI_n1, Bool.true_eq_false, Bool.false_eq_true, eq_self, i_0, i_1, i_2, i_3, i_4, i_5, i_6, i_7, i_8, i_9, i_10, i_11, i_12, i_13, i_14, i_15, i_16, i_17, i_18, i_19, i_20, i_21, i_22, i_23, i_24, i_25, i_26, i_27, i_28, i_29, i_30, i_31, i_32, i_33, i_34, i_35, i_36, i_37, i_38, i_39, i_40, i_41, i_42, i_43, i_44, i_45, i_48, i_49, i_57, i_59, i_60, i_61, i_62, i_64, i_97, i_110, i_122, i_123, i_125, i_126, i_127, i_160, i_255, i_300, i_400, h7, e]
    rfl
  · have ne : rk (kT t tok) ≠ rk k := fun h => c (rk_inj _ (kT_lt t tok) k hk h)
    rw [decide_eq_false c]
    simp (disch := omega) only [↓reduceIte, nI_leT, nI_leF, nI_ltT, nI_ltF, nI_eqT, nI_eqF, xin_T, nI_clampT, nI_add, nI_inc, pk_subT, xb_some, xval, xlet, mI_s, mI_n, mI_k, mI_2, mJ_1, mJ_s, mJ_n, mJ_k, mJ_2, mT_1, mT_2, mT_s, mT_n, mT_k, mT_3, mR_1, mR_2, mR_3, bI_0, bI_1, bI_n0, bI_n1, Bool.true_eq_false, Bool.false_eq_true, eq_self, i_0, i_1, i_2, i_3, i_4, i_5, i_6, i_7, i_8, i_9, i_10, i_11, i_12, i_13, i_14, i_15, i_16, i_17, i_18, i_19, i_20, i_21, i_22, i_23, i_24, i_25, i_26, i_27, i_28, i_29, i_30, i_31, i_32, i_33, i_34, i_35, i_36, i_37, i_38, i_39, i_40, i_41, i_42, i_43, i_44, i_45, i_48, i_49, i_57, i_59, i_60, i_61, i_62, i_64, i_97, i_110, i_122, i_123, i_125, i_126, i_127, i_160, i_255, i_300, i_400, h7, e]
    rfl
theorem r_wrongs0 {M : xMem} {b : Nat} : f_N_wrongs b (nI 0) M = some ((), M) := by unfold f_N_wrongs; simp (disch := omega) only [↓reduceIte, nI_leT, nI_leF, nI_ltT, nI_ltF, nI_eqT, nI_eqF, xin_T, nI_clampT, nI_add, nI_inc, pk_subT, xb_some, xval, xlet, mI_s, mI_n, mI_k, mI_2, mJ_1, mJ_s, mJ_n, mJ_k, mJ_2, mT_1, mT_2, mT_s, mT_n, mT_k, mT_3, mR_1, mR_2, mR_3, bI_0, bI_1, bI_n0, bI_n1, Bool.true_eq_false, Bool.false_eq_true, eq_self, i_0, i_1, i_2, i_3, i_4, i_5, i_6, i_7, i_8, i_9, i_10, i_11, i_12, i_13, i_14, i_15, i_16, i_17, i_18, i_19, i_20, i_21, i_22, i_23, i_24, i_25, i_26, i_27, i_28, i_29, i_30, i_31, i_32, i_33, i_34, i_35, i_36, i_37, i_38, i_39, i_40, i_41, i_42, i_43, i_44, i_45, i_48, i_49, i_57, i_59, i_60, i_61, i_62, i_64, i_97, i_110, i_122, i_123, i_125, i_126, i_127, i_160, i_255, i_300, i_400]
theorem r_wrongs1 {M : xMem} {b tok : Nat} {t : List Nat} (h : rLx M b t) (h7 : M.1 b 7 = nI tok) (h4 : M.1 b 4 = -1) (ht : tok ≤ nT t) : f_N_wrongs b (nI 1) M = some ((), wI M b 4 (nI (pS (pLex t) tok))) := by
  have hT := nT_le t
  have e := (r_kind h ht).2
  have n1 : (nI 0 ≤ -nI 1) = False := by decide
  have h4' : M.1 b 4 = -nI 1 := h4
  unfold f_N_wrongs
  simp (disch := omega) only [↓reduceIte, nI_leT, nI_leF, nI_ltT, nI_ltF, nI_eqT, nI_eqF, xin_T, nI_clampT, nI_add, nI_inc, pk_subT, xb_some, xval, xlet, mI_s, mI_n, mI_k, mI_2, mJ_1, mJ_s, mJ_n, mJ_k, mJ_2, mT_1, mT_2, mT_s, mT_n, mT_k, mT_3, mR_1, mR_2, mR_3, bI_0, bI_1, bI_n0, bI_n1, Bool.true_eq_false, Bool.false_eq_true, eq_self, i_0, i_1, i_2, i_3, i_4, i_5, i_6, i_7, i_8, i_9, i_10, i_11, i_12, i_13, i_14, i_15, i_16, i_17, i_18, i_19, i_20, i_21, i_22, i_23, i_24, i_25, i_26, i_27, i_28, i_29, i_30, i_31, i_32, i_33, i_34, i_35, i_36, i_37, i_38, i_39, i_40, i_41, i_42, i_43, i_44, i_45, i_48, i_49, i_57, i_59, i_60, i_61, i_62, i_64, i_97, i_110, i_122, i_123, i_125, i_126, i_127, i_160, i_255, i_300, i_400, h7, h4', e, n1]
theorem pS_lt (t : List Nat) (i : Nat) (hl : t.length ≤ 160) : pS (pLex t) i ≤ 160 := by
  by_cases q : i < (pLex t).length
  · obtain ⟨a1, a2, _⟩ := pLex_in t _ (pLex_mem q)
    have a1 : pS (pLex t) i ≤ pE (pLex t) i := a1
    have a2 : pE (pLex t) i ≤ t.length := a2
    omega
  · unfold pS; rw [List.getD_eq_getElem?_getD, List.getElem?_eq_none (by omega)]; exact Nat.zero_le _
/-- bad or not, it stays so -/
theorem r_bad {n : Nat} (h : n ≤ 160) : (nI 0 ≤ nI n) = True ∧ (nI n < nI 0) = False ∧ (nI 0 ≤ (-1 : Int32)) = False ∧ ((-1 : Int32) < nI 0) = True := by
  refine ⟨eq_true (nI_le (by omega) (by omega)), eq_false (nI_nlt (by omega) (by omega)), by decide, by decide⟩
/-- what a step of the reference's grammar comes to -/
def nRes (M0 : xMem) (b : Nat) (t : List Nat) (r : Nat ⊕ qC) (o : Option (Unit × xMem)) : Prop := ∃ M', o = some ((), M') ∧ rF (rGrS b) M0 M' ∧ (∀ e, r = .inl e → M'.1 b 4 = nI (pS (pLex t) e)) ∧ (∀ st tok sc L, r = .inr (st, tok, sc, L) → nQ M' b t st tok sc L ∧ M'.1 b 4 = -1)
theorem nRes.inl {M0 M' : xMem} {b e : Nat} {t : List Nat} {o : Option (Unit × xMem)} (h : o = some ((), M')) (f : rF (rGrS b) M0 M') (h4 : M'.1 b 4 = nI (pS (pLex t) e)) : nRes M0 b t (.inl e) o :=
  ⟨M', h, f, fun _ h => by cases h; exact h4, fun _ _ _ _ h => by cases h⟩
theorem nRes.inr {M0 M' : xMem} {b tok sc : Nat} {t : List Nat} {st : List qI} {L : qL} {o : Option (Unit × xMem)} (h : o = some ((), M')) (f : rF (rGrS b) M0 M') (hq : nQ M' b t st tok sc L) (h4 : M'.1 b 4 = -1) : nRes M0 b t (.inr (st, tok, sc, L)) o :=
  ⟨M', h, f, fun _ h => (by cases h), fun _ _ _ _ h => by cases h; exact ⟨hq, h4⟩⟩
theorem mPush_gr {M : xMem} {b h w d c : Nat} {a : Int32} : rF (rGrS b) M (mPush M b h w d a c) := mPush_fr.mono (by intro a k; unfold rStS rGrS; omega)
theorem mPush_4 {M : xMem} {b h w d c : Nat} {a : Int32} : (mPush M b h w d a c).1 b 4 = M.1 b 4 := mPush_fr.2 _ _ (by unfold rStS; omega)
theorem mPush_7 {M : xMem} {b h w d c : Nat} {a : Int32} : (mPush M b h w d a c).1 b 7 = M.1 b 7 := mPush_fr.2 _ _ (by unfold rStS; omega)
theorem gr_7 {M : xMem} {b : Nat} {v : Int32} : rF (rGrS b) M (wI M b 7 v) := rF.I (by unfold rGrS; omega)
theorem gr_4 {M : xMem} {b : Nat} {v : Int32} : rF (rGrS b) M (wI M b 4 v) := rF.I (by unfold rGrS; omega)
/-- one USE more -/
def nUse (M : xMem) (b n p s w : Nat) : xMem := wI (wI (wI (wI M (b + 24) n (nI p)) (b + 25) n (nI s)) (b + 27) n (nI w)) b 41 (nI (n + 1))
theorem r_use {M : xMem} {b p s w n : Nat} (h41 : M.1 b 41 = nI n) (h28 : M.1 b 28 = nI s) (hn : n < 64) (hw : w ≤ 1) : f_N_use b (nI p) (nI w) M = some ((), nUse M b n p s w) := by
  have : w = 0 ∨ w = 1 := by omega
  unfold f_N_use nUse
  rcases this with rfl | rfl
  · simp (disch := omega) only [↓reduceIte, nI_leT, nI_leF, nI_ltT, nI_ltF, nI_eqT, nI_eqF, xin_T, nI_clampT, nI_add, nI_inc, pk_subT, xb_some, xval, xlet, mI_s, mI_n, mI_k, mI_2, mJ_1, mJ_s, mJ_n, mJ_k, mJ_2, mT_1, mT_2, mT_s, mT_n, mT_k, mT_3, mR_1, mR_2, mR_3, bI_0, bI_1, bI_n0, bI_n1, Bool.true_eq_false, Bool.false_eq_true, eq_self, i_0, i_1, i_2, i_3, i_4, i_5, i_6, i_7, i_8, i_9, i_10, i_11, i_12, i_13, i_14, i_15, i_16, i_17, i_18, i_19, i_20, i_21, i_22, i_23, i_24, i_25, i_26, i_27, i_28, i_29, i_30, i_31, i_32, i_33, i_34, i_35, i_36, i_37, i_38, i_39, i_40, i_41, i_42, i_43, i_44, i_45, i_48, i_49, i_57, i_59, i_60, i_61, i_62, i_64, i_97, i_110, i_122, i_123, i_125, i_126, i_127, i_160, i_255, i_300, i_400, h41, h28, vp_narB0]
  · simp (disch := omega) only [↓reduceIte, nI_leT, nI_leF, nI_ltT, nI_ltF, nI_eqT, nI_eqF, xin_T, nI_clampT, nI_add, nI_inc, pk_subT, xb_some, xval, xlet, mI_s, mI_n, mI_k, mI_2, mJ_1, mJ_s, mJ_n, mJ_k, mJ_2, mT_1, mT_2, mT_s, mT_n, mT_k, mT_3, mR_1, mR_2, mR_3, bI_0, bI_1, bI_n0, bI_n1, Bool.true_eq_false, Bool.false_eq_true, eq_self, i_0, i_1, i_2, i_3, i_4, i_5, i_6, i_7, i_8, i_9, i_10, i_11, i_12, i_13, i_14, i_15, i_16, i_17, i_18, i_19, i_20, i_21, i_22, i_23, i_24, i_25, i_26, i_27, i_28, i_29, i_30, i_31, i_32, i_33, i_34, i_35, i_36, i_37, i_38, i_39, i_40, i_41, i_42, i_43, i_44, i_45, i_48, i_49, i_57, i_59, i_60, i_61, i_62, i_64, i_97, i_110, i_122, i_123, i_125, i_126, i_127, i_160, i_255, i_300, i_400, h41, h28, vp_narB1]
def nUseS (b : Nat) (a k : Nat) : Prop := (a = b ∧ k = 41) ∨ a = b + 24 ∨ a = b + 25 ∨ a = b + 27
theorem nUse_fr {M : xMem} {b n p s w : Nat} : rF (nUseS b) M (nUse M b n p s w) := by
  unfold nUse
  exact (((rF.I (by unfold nUseS; omega)).trans (rF.I (by unfold nUseS; omega))).trans (rF.I (by unfold nUseS; omega))).trans (rF.I (by unfold nUseS; omega))
theorem nQ.use {M : xMem} {b tok sc p s w : Nat} {t : List Nat} {r : List qI} {L : qL} (h : nQ M b t r tok sc L) : nQ (nUse M b (L 2).length p s w) b t r tok sc (qA 2 (p, s, w, 0, 0) L) := by
  obtain ⟨h1, h2, h3, h4, h5, k0, k5, k1, k2, k14, k15, k16, k6, k18, k19, k4, kx⟩ := h
  have f := nUse_fr (M := M) (b := b) (n := (L 2).length) (p := p) (s := s) (w := w)
  refine ⟨h1.gr (f.mono (by intro a k; unfold nUseS rGrS; omega)), ?_, ?_, h4.to ?_, ?_, k0.fr f ?_ ?_, k5.fr f ?_ ?_, k1.fr f ?_ ?_, ?_, k14.fr f ?_ ?_, k15.fr f ?_ ?_, k16.fr f ?_ ?_, k6.fr f ?_ ?_, k18.fr f ?_ ?_, k19.fr f ?_ ?_, k4.fr f ?_ ?_, ?_⟩
  all_goals first
    | (rw [f.2 _ _ (by unfold nUseS; omega)]; assumption)
    | (unfold nUseS; omega)
    | (intro a h j; simp [c0, c5, c1, c14, c15, c16, c6, c18, c19, c4] at h; unfold nUseS; omega)
    | (intro a j q1 q2 q3; exact f.2 _ _ (by unfold nUseS; omega))
    | (intro i hi hn; rw [f.2 _ _ (by unfold nUseS; omega)]; exact kx i hi hn)
    | (rw [qA_s]; refine k2.app (by unfold nUse; simp (disch := omega) only [↓reduceIte, nI_leT, nI_leF, nI_ltT, nI_ltF, nI_eqT, nI_eqF, xin_T, nI_clampT, nI_add, nI_inc, pk_subT, xb_some, xval, xlet, mI_s, mI_n, mI_k, mI_2, mJ_1, mJ_s, mJ_n, mJ_k, mJ_2, mT_1, mT_2, mT_s, mT_n, mT_k, mT_3, mR_1, mR_2, mR_3, bI_0, bI_1, bI_n0, bI_n1, Bool.true_eq_false, Bool.false_eq_true, eq_self, i_0, i_1, i_2, i_3, i_4, i_5, i_6, i_7, i_8, i_9, i_10, i_11, i_12, i_13, i_14, i_15, i_16, i_17, i_18, i_19, i_20, i_21, i_22, i_23, i_24, i_25, i_26, i_27, i_28, i_29, i_30, i_31, i_32, i_33, i_34, i_35, i_36, i_37, i_38, i_39, i_40, i_41, i_42, i_43, i_44, i_45, i_48, i_49, i_57, i_59, i_60, i_61, i_62, i_64, i_97, i_110, i_122, i_123, i_125, i_126, i_127, i_160, i_255, i_300, i_400]) ?_
       intro c hc
       simp only [c2, List.mem_cons, List.not_mem_nil, or_false] at hc
       rcases hc with rfl | rfl | rfl <;> (refine ⟨fun i hi => ?_, ?_⟩ <;> (unfold nUse; simp (disch := omega) only [↓reduceIte, nI_leT, nI_leF, nI_ltT, nI_ltF, nI_eqT, nI_eqF, xin_T, nI_clampT, nI_add, nI_inc, pk_subT, xb_some, xval, xlet, mI_s, mI_n, mI_k, mI_2, mJ_1, mJ_s, mJ_n, mJ_k, mJ_2, mT_1, mT_2, mT_s, mT_n, mT_k, mT_3, mR_1, mR_2, mR_3, bI_0, bI_1, bI_n0, bI_n1, Bool.true_eq_false, Bool.false_eq_true, eq_self, i_0, i_1, i_2, i_3, i_4, i_5, i_6, i_7, i_8, i_9, i_10, i_11, i_12, i_13, i_14, i_15, i_16, i_17, i_18, i_19, i_20, i_21, i_22, i_23, i_24, i_25, i_26, i_27, i_28, i_29, i_30, i_31, i_32, i_33, i_34, i_35, i_36, i_37, i_38, i_39, i_40, i_41, i_42, i_43, i_44, i_45, i_48, i_49, i_57, i_59, i_60, i_61, i_62, i_64, i_97, i_110, i_122, i_123, i_125, i_126, i_127, i_160, i_255, i_300, i_400])))
