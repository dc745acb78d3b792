/-! PURE: steps of the reference's grammar: values -/
theorem bI_d1 {p : Prop} [Decidable p] (h : p) : bI (decide p) = nI 1 := by rw [decide_eq_true h]; rfl
theorem bI_d0 {p : Prop} [Decidable p] (h : ¬ p) : bI (decide p) = nI 0 := by rw [decide_eq_false h]; rfl
theorem r_isT {M : xMem} {b tok k : Nat} {t : List Nat} (h : rLx M b t) (h7 : M.1 b 7 = nI tok) (ht : tok ≤ nT t) (hk : kT t tok = k) : f_N_is b (nI (rk k)) M = some (nI 1, M) := by
  rw [r_is h h7 ht (by rw [← hk]; exact kT_lt t tok), bI_d1 hk]
theorem r_isF {M : xMem} {b tok k : Nat} {t : List Nat} (h : rLx M b t) (h7 : M.1 b 7 = nI tok) (ht : tok ≤ nT t) (hk28 : k < 28) (hk : kT t tok ≠ k) : f_N_is b (nI (rk k)) M = some (nI 0, M) := by
  rw [r_is h h7 ht hk28, bI_d0 hk]
theorem r_takesT {M : xMem} {b tok k : Nat} {t : List Nat} (h : rLx M b t) (h7 : M.1 b 7 = nI tok) (h4 : M.1 b 4 = -1) (ht : tok ≤ nT t) (hk : kT t tok = k) : f_N_takes b (nI (rk k)) M = some ((), wI M b 7 (nI (tok + 1))) := by
  have is := r_isT h h7 ht hk
  have h4' : M.1 b 4 = -nI 1 := h4
  have n1 : (nI 0 ≤ -nI 1) = False := by decide
  unfold f_N_takes f_N_takes_14
  simp (disch := omega) only [↓reduceIte, nI_leT, nI_leF, nI_ltT, nI_ltF, nI_eqT, nI_eqF, xin_T, nI_clampT, nI_add, nI_inc, pk_subT, xb_some, xval, xlet, mI_s, mI_n, mI_k, mI_2, mJ_1, mJ_s, mJ_n, mJ_k, mJ_2, mT_1, mT_2, mT_s, mT_n, mT_k, mT_3, mR_1, mR_2, mR_3, bI_0, bI_1, bI_n0, bI_n1, Bool.true_eq_false, Bool.false_eq_true, eq_self, i_0, i_1, i_2, i_3, i_4, i_5, i_6, i_7, i_8, i_9, i_10, i_11, i_12, i_13, i_14, i_15, i_16, i_17, i_18, i_19, i_20, i_21, i_22, i_23, i_24, i_25, i_26, i_27, i_28, i_29, i_30, i_31, i_32, i_33, i_34, i_35, i_36, i_37, i_38, i_39, i_40, i_41, i_42, i_43, i_44, i_45, i_48, i_49, i_57, i_59, i_60, i_61, i_62, i_64, i_97, i_110, i_122, i_123, i_125, i_126, i_127, i_160, i_255, i_300, i_400, is, r_wrongs0, h4', n1, h7]
theorem r_takesF {M : xMem} {b tok k : Nat} {t : List Nat} (h : rLx M b t) (h7 : M.1 b 7 = nI tok) (h4 : M.1 b 4 = -1) (ht : tok ≤ nT t) (hk28 : k < 28) (hk : kT t tok ≠ k) : f_N_takes b (nI (rk k)) M = some ((), wI M b 4 (nI (pS (pLex t) tok))) := by
  have is := r_isF h h7 ht hk28 hk
  have wr := r_wrongs1 h h7 h4 ht
  have le := pS_lt t tok h.1.2.1
  unfold f_N_takes f_N_takes_14
  simp (disch := omega) only [↓reduceIte, nI_leT, nI_leF, nI_ltT, nI_ltF, nI_eqT, nI_eqF, xin_T, nI_clampT, nI_add, nI_inc, pk_subT, xb_some, xval, xlet, mI_s, mI_n, mI_k, mI_2, mJ_1, mJ_s, mJ_n, mJ_k, mJ_2, mT_1, mT_2, mT_s, mT_n, mT_k, mT_3, mR_1, mR_2, mR_3, bI_0, bI_1, bI_n0, bI_n1, Bool.true_eq_false, Bool.false_eq_true, eq_self, i_0, i_1, i_2, i_3, i_4, i_5, i_6, i_7, i_8, i_9, i_10, i_11, i_12, i_13, i_14, i_15, i_16, i_17, i_18, i_19, i_20, i_21, i_22, i_23, i_24, i_25, i_26, i_27, i_28, i_29, i_30, i_31, i_32, i_33, i_34, i_35, i_36, i_37, i_38, i_39, i_40, i_41, i_42, i_43, i_44, i_45, i_48, i_49, i_57, i_59, i_60, i_61, i_62, i_64, i_97, i_110, i_122, i_123, i_125, i_126, i_127, i_160, i_255, i_300, i_400, is, wr]
/-- where it is wrong already, nothing more is taken -/
theorem r_takesB {M : xMem} {b tok e : Nat} {v : Int32} (h7 : M.1 b 7 = nI tok) (h4 : M.1 b 4 = nI e) (he : e ≤ 160) (ht : tok ≤ 60) : f_N_takes b v M = some ((), M) := by
  have ge : (nI 0 ≤ nI e) = True := eq_true (nI_le (by omega) (by omega))
  have w : ∀ w, f_N_takes_14 b v w M = some ((), M) := by
    intro w
    unfold f_N_takes_14 f_N_wrongs
    by_cases c : w = 0
    · subst c
      simp (disch := omega) only [↓reduceIte, nI_leT, nI_leF, nI_ltT, nI_ltF, nI_eqT, nI_eqF, xin_T, nI_clampT, nI_add, nI_inc, pk_subT, xb_some, xval, xlet, mI_s, mI_n, mI_k, mI_2, mJ_1, mJ_s, mJ_n, mJ_k, mJ_2, mT_1, mT_2, mT_s, mT_n, mT_k, mT_3, mR_1, mR_2, mR_3, bI_0, bI_1, bI_n0, bI_n1, Bool.true_eq_false, Bool.false_eq_true, eq_self, i_0, i_1, i_2, i_3, i_4, i_5, i_6, i_7, i_8, i_9, i_10, i_11, i_12, i_13, i_14, i_15, i_16, i_17, i_18, i_19, i_20, i_21, i_22, i_23, i_24, i_25, i_26, i_27, i_28, i_29, i_30, i_31, i_32, i_33, i_34, i_35, i_36, i_37, i_38, i_39, i_40, i_41, i_42, i_43, i_44, i_45, i_48, i_49, i_57, i_59, i_60, i_61, i_62, i_64, i_97, i_110, i_122, i_123, i_125, i_126, i_127, i_160, i_255, i_300, i_400, h4, ge]
    · rw [if_neg c]
      simp (disch := omega) only [↓reduceIte, nI_leT, nI_leF, nI_ltT, nI_ltF, nI_eqT, nI_eqF, xin_T, nI_clampT, nI_add, nI_inc, pk_subT, xb_some, xval, xlet, mI_s, mI_n, mI_k, mI_2, mJ_1, mJ_s, mJ_n, mJ_k, mJ_2, mT_1, mT_2, mT_s, mT_n, mT_k, mT_3, mR_1, mR_2, mR_3, bI_0, bI_1, bI_n0, bI_n1, Bool.true_eq_false, Bool.false_eq_true, eq_self, i_0, i_1, i_2, i_3, i_4, i_5, i_6, i_7, i_8, i_9, i_10, i_11, i_12, i_13, i_14, i_15, i_16, i_17, i_18, i_19, i_20, i_21, i_22, i_23, i_24, i_25, i_26, i_27, i_28, i_29, i_30, i_31, i_32, i_33, i_34, i_35, i_36, i_37, i_38, i_39, i_40, i_41, i_42, i_43, i_44, i_45, i_48, i_49, i_57, i_59, i_60, i_61, i_62, i_64, i_97, i_110, i_122, i_123, i_125, i_126, i_127, i_160, i_255, i_300, i_400, h4, ge]
  unfold f_N_takes f_N_is
  by_cases c : M.1 (b + 8) tok = v
  · simp (disch := omega) only [↓reduceIte, nI_leT, nI_leF, nI_ltT, nI_ltF, nI_eqT, nI_eqF, xin_T, nI_clampT, nI_add, nI_inc, pk_subT, xb_some, xval, xlet, mI_s, mI_n, mI_k, mI_2, mJ_1, mJ_s, mJ_n, mJ_k, mJ_2, mT_1, mT_2, mT_s, mT_n, mT_k, mT_3, mR_1, mR_2, mR_3, bI_0, bI_1, bI_n0, bI_n1, Bool.true_eq_false, Bool.false_eq_true, eq_self, i_0, i_1, i_2, i_3, i_4, i_5, i_6, i_7, i_8, i_9, i_10, i_11, i_12, i_13, i_14, i_15, i_16, i_17, i_18, i_19, i_20, i_21, i_22, i_23, i_24, i_25, i_26, i_27, i_28, i_29, i_30, i_31, i_32, i_33, i_34, i_35, i_36, i_37, i_38, i_39, i_40, i_41, i_42, i_43, i_44, i_45, i_48, i_49, i_57, i_59, i_60, i_61, i_62, i_64, i_97, i_110, i_122, i_123, i_125, i_126, i_127, i_160, i_255, i_300, i_400, h7, c, w]
  · simp (disch := omega) only [↓reduceIte, nI_leT, nI_leF, nI_ltT, nI_ltF, nI_eqT, nI_eqF, xin_T, nI_clampT, nI_add, nI_inc, pk_subT, xb_some, xval, xlet, mI_s, mI_n, mI_k, mI_2, mJ_1, mJ_s, mJ_n, mJ_k, mJ_2, mT_1, mT_2, mT_s, mT_n, mT_k, mT_3, mR_1, mR_2, mR_3, bI_0, bI_1, bI_n0, bI_n1, Bool.true_eq_false, Bool.false_eq_true, eq_self, i_0, i_1, i_2, i_3, i_4, i_5, i_6, i_7, i_8, i_9, i_10, i_11, i_12, i_13, i_14, i_15, i_16, i_17, i_18, i_19, i_20, i_21, i_22, i_23, i_24, i_25, i_26, i_27, i_28, i_29, i_30, i_31, i_32, i_33, i_34, i_35, i_36, i_37, i_38, i_39, i_40, i_41, i_42, i_43, i_44, i_45, i_48, i_49, i_57, i_59, i_60, i_61, i_62, i_64, i_97, i_110, i_122, i_123, i_125, i_126, i_127, i_160, i_255, i_300, i_400, h7, c, w]
theorem nQ.lx {M : xMem} {b tok sc : Nat} {t : List Nat} {r : List qI} {L : qL} (h : nQ M b t r tok sc L) : rLx M b t := h.1
theorem rs_value {M : xMem} {b d a tok sc : Nat} {t : List Nat} {r : List qI} {L : qL} (h : nQ M b t r tok sc L) (h4 : M.1 b 4 = -1) (hW : gW t ((5, d, a, 0) :: r, tok, sc, L)) : nRes M b t (qVal (kT t) d a r tok sc L) (f_N_value b (nI d) (nI a) M) := by
  have ht := hW.tok
  have hT := nT_le t
  obtain ⟨hd1, hd2, hh, hi1, hi2, hi3⟩ := hW.2.2.1
  have hd2 : d ≤ 13 := hd2
  have hh : r.length ≤ 2 * d + 3 := hh
  have hi2 : a ≤ 1 := hi2
  have hi3 : a = 0 → d ≤ 12 := hi3
  have hl := hW.len
  have h7 := h.2.1
  have h8 := h.2.2.1
  have h4' : M.1 b 4 = -nI 1 := h4
  have n1 : (-nI 1 < nI 0) = True := by decide
  unfold qVal
  by_cases c1 : a = 1 ∧ 12 < d
  · rw [if_pos c1]
    have wr := r_wrongs1 h.1 h7 h4 ht.1
    have le := pS_lt t tok h.1.1.2.1
    refine .inl (M' := wI M b 4 (nI (pS (pLex t) tok))) ?_ gr_4 (by simp (disch := omega) only [↓reduceIte, nI_leT, nI_leF, nI_ltT, nI_ltF, nI_eqT, nI_eqF, xin_T, nI_clampT, nI_add, nI_inc, pk_subT, xb_some, xval, xlet, mI_s, mI_n, mI_k, mI_2, mJ_1, mJ_s, mJ_n, mJ_k, mJ_2, mT_1, mT_2, mT_s, mT_n, mT_k, mT_3, mR_1, mR_2, mR_3, bI_0, bI_1, bI_n0, bI_n1, Bool.true_eq_false, Bool.false_eq_true, eq_self, i_0, i_1, i_2, i_3, i_4, i_5, i_6, i_7, i_8, i_9, i_10, i_11, i_12, i_13, i_14, i_15, i_16, i_17, i_18, i_19, i_20, i_21, i_22, i_23, i_24, i_25, i_26, i_27, i_28, i_29, i_30, i_31, i_32, i_33, i_34, i_35, i_36, i_37, i_38, i_39, i_40, i_41, i_42, i_43, i_44, i_45, i_48, i_49, i_57, i_59, i_60, i_61, i_62, i_64, i_97, i_110, i_122, i_123, i_125, i_126, i_127, i_160, i_255, i_300, i_400])
    obtain ⟨rfl, c1⟩ := c1
    unfold f_N_value f_N_value_17
    simp (disch := omega) only [↓reduceIte, nI_leT, nI_leF, nI_ltT, nI_ltF, nI_eqT, nI_eqF, xin_T, nI_clampT, nI_add, nI_inc, pk_subT, xb_some, xval, xlet, mI_s, mI_n, mI_k, mI_2, mJ_1, mJ_s, mJ_n, mJ_k, mJ_2, mT_1, mT_2, mT_s, mT_n, mT_k, mT_3, mR_1, mR_2, mR_3, bI_0, bI_1, bI_n0, bI_n1, Bool.true_eq_false, Bool.false_eq_true, eq_self, i_0, i_1, i_2, i_3, i_4, i_5, i_6, i_7, i_8, i_9, i_10, i_11, i_12, i_13, i_14, i_15, i_16, i_17, i_18, i_19, i_20, i_21, i_22, i_23, i_24, i_25, i_26, i_27, i_28, i_29, i_30, i_31, i_32, i_33, i_34, i_35, i_36, i_37, i_38, i_39, i_40, i_41, i_42, i_43, i_44, i_45, i_48, i_49, i_57, i_59, i_60, i_61, i_62, i_64, i_97, i_110, i_122, i_123, i_125, i_126, i_127, i_160, i_255, i_300, i_400, wr]
  rw [if_neg c1]
  have o : f_N_value b (nI d) (nI a) M = f_N_value_16 b (nI d) (nI a) M := by
    unfold f_N_value
    by_cases c : a = 1
    · subst c
      simp (disch := omega) only [↓reduceIte, nI_leT, nI_leF, nI_ltT, nI_ltF, nI_eqT, nI_eqF, xin_T, nI_clampT, nI_add, nI_inc, pk_subT, xb_some, xval, xlet, mI_s, mI_n, mI_k, mI_2, mJ_1, mJ_s, mJ_n, mJ_k, mJ_2, mT_1, mT_2, mT_s, mT_n, mT_k, mT_3, mR_1, mR_2, mR_3, bI_0, bI_1, bI_n0, bI_n1, Bool.true_eq_false, Bool.false_eq_true, eq_self, i_0, i_1, i_2, i_3, i_4, i_5, i_6, i_7, i_8, i_9, i_10, i_11, i_12, i_13, i_14, i_15, i_16, i_17, i_18, i_19, i_20, i_21, i_22, i_23, i_24, i_25, i_26, i_27, i_28, i_29, i_30, i_31, i_32, i_33, i_34, i_35, i_36, i_37, i_38, i_39, i_40, i_41, i_42, i_43, i_44, i_45, i_48, i_49, i_57, i_59, i_60, i_61, i_62, i_64, i_97, i_110, i_122, i_123, i_125, i_126, i_127, i_160, i_255, i_300, i_400]
    · simp (disch := omega) only [↓reduceIte, nI_leT, nI_leF, nI_ltT, nI_ltF, nI_eqT, nI_eqF, xin_T, nI_clampT, nI_add, nI_inc, pk_subT, xb_some, xval, xlet, mI_s, mI_n, mI_k, mI_2, mJ_1, mJ_s, mJ_n, mJ_k, mJ_2, mT_1, mT_2, mT_s, mT_n, mT_k, mT_3, mR_1, mR_2, mR_3, bI_0, bI_1, bI_n0, bI_n1, Bool.true_eq_false, Bool.false_eq_true, eq_self, i_0, i_1, i_2, i_3, i_4, i_5, i_6, i_7, i_8, i_9, i_10, i_11, i_12, i_13, i_14, i_15, i_16, i_17, i_18, i_19, i_20, i_21, i_22, i_23, i_24, i_25, i_26, i_27, i_28, i_29, i_30, i_31, i_32, i_33, i_34, i_35, i_36, i_37, i_38, i_39, i_40, i_41, i_42, i_43, i_44, i_45, i_48, i_49, i_57, i_59, i_60, i_61, i_62, i_64, i_97, i_110, i_122, i_123, i_125, i_126, i_127, i_160, i_255, i_300, i_400]
  rw [o]
  unfold f_N_value_16 f_N_value_17
  /- PART and MORE -/
  have p1 := r_push (M := M) (b := b) (w := 6) (d := d) (a := nI 0) (c := 0) h8 (by omega)
  have q1 := h.push (6, d, 0, 0)
  have p2 := r_push (M := mPush M b r.length 6 d (nI 0) 0) (b := b) (w := 7) (d := d) (a := nI 0) (c := 0) q1.2.2.1 (by simp only [List.length_cons]; omega)
  have q2 := q1.push (7, d, 0, 0)
  have plain : f_N_value_82 b (nI d) (nI a) M = some ((), mPush (mPush M b r.length 6 d (nI 0) 0) b (r.length + 1) 7 d (nI 0) 0) := by
    unfold f_N_value_82
    rw [i_6, i_7, i_0, p1, xb_some]
    rw [show ((6, d, 0, 0) :: r).length = r.length + 1 from rfl] at p2
    rw [p2, xb_some]
  by_cases c2 : kT t tok = 23 ∧ kT t (tok + 1) = 10
  · rw [if_pos c2]
    have is1 : f_N_is b (nI 1) M = some (nI 1, M) := r_isT h.1 h7 ht.1 c2.1
    have t1 := g_T t tok ht.1 (by omega)
    have e14 : M.1 (b + 8) (tok + 1) = nI 14 := by
      have := (r_kind h.1 t1).1
      rw [c2.2] at this
      exact this
    have us := r_use (p := tok) (w := 1) h.2.2.2.2.2.2.2.2.1.1 h.2.2.2.2.1 (by omega) (by omega)
    have q3 := (h.use (p := tok) (s := sc) (w := 1)).at (tok' := tok + 2)
    have h7' : (nUse M b (L 2).length tok sc 1).1 b 7 = nI tok := by rw [nUse_fr.2 _ _ (by unfold nUseS; omega)]; exact h7
    have p3 := r_push (M := wI (nUse M b (L 2).length tok sc 1) b 7 (nI (tok + 2))) (b := b) (w := 5) (d := d + 1) (a := nI 1) (c := 0) q3.2.2.1 (by omega)
    refine .inr (M' := mPush (wI (nUse M b (L 2).length tok sc 1) b 7 (nI (tok + 2))) b r.length 5 (d + 1) (nI 1) 0) ?_ ?_ (q3.push (5, d + 1, 1, 0)) ?_
    · simp (disch := omega) only [↓reduceIte, nI_leT, nI_leF, nI_ltT, nI_ltF, nI_eqT, nI_eqF, xin_T, nI_clampT, nI_add, nI_inc, pk_subT, xb_some, xval, xlet, mI_s, mI_n, mI_k, mI_2, mJ_1, mJ_s, mJ_n, mJ_k, mJ_2, mT_1, mT_2, mT_s, mT_n, mT_k, mT_3, mR_1, mR_2, mR_3, bI_0, bI_1, bI_n0, bI_n1, Bool.true_eq_false, Bool.false_eq_true, eq_self, i_0, i_1, i_2, i_3, i_4, i_5, i_6, i_7, i_8, i_9, i_10, i_11, i_12, i_13, i_14, i_15, i_16, i_17, i_18, i_19, i_20, i_21, i_22, i_23, i_24, i_25, i_26, i_27, i_28, i_29, i_30, i_31, i_32, i_33, i_34, i_35, i_36, i_37, i_38, i_39, i_40, i_41, i_42, i_43, i_44, i_45, i_48, i_49, i_57, i_59, i_60, i_61, i_62, i_64, i_97, i_110, i_122, i_123, i_125, i_126, i_127, i_160, i_255, i_300, i_400, r_wrongs0, h4', n1, is1, h7, e14, us, h7', p3]
    · exact ((nUse_fr.mono (by intro a k; unfold nUseS rGrS; omega)).trans gr_7).trans mPush_gr
    · rw [mPush_4, mI_k (by decide), nUse_fr.2 _ _ (by unfold nUseS; omega)]; exact h4
  · rw [if_neg c2]
    refine .inr (M' := mPush (mPush M b r.length 6 d (nI 0) 0) b (r.length + 1) 7 d (nI 0) 0) ?_ (mPush_gr.trans mPush_gr) q2 (by rw [mPush_4, mPush_4]; exact h4)
    by_cases c3 : kT t tok = 23
    · have is1 : f_N_is b (nI 1) M = some (nI 1, M) := r_isT h.1 h7 ht.1 c3
      have t1 := g_T t tok ht.1 (by omega)
      have e14 := (r_kind h.1 t1).1
      have ne : rk (kT t (tok + 1)) ≠ 14 := by
        intro e; exact c2 ⟨c3, rk_inj _ (kT_lt t _) 10 (by omega) e⟩
      have l := rk_lt _ (kT_lt t (tok + 1))
      simp (disch := omega) only [↓reduceIte, nI_leT, nI_leF, nI_ltT, nI_ltF, nI_eqT, nI_eqF, xin_T, nI_clampT, nI_add, nI_inc, pk_subT, xb_some, xval, xlet, mI_s, mI_n, mI_k, mI_2, mJ_1, mJ_s, mJ_n, mJ_k, mJ_2, mT_1, mT_2, mT_s, mT_n, mT_k, mT_3, mR_1, mR_2, mR_3, bI_0, bI_1, bI_n0, bI_n1, Bool.true_eq_false, Bool.false_eq_true, eq_self, i_0, i_1, i_2, i_3, i_4, i_5, i_6, i_7, i_8, i_9, i_10, i_11, i_12, i_13, i_14, i_15, i_16, i_17, i_18, i_19, i_20, i_21, i_22, i_23, i_24, i_25, i_26, i_27, i_28, i_29, i_30, i_31, i_32, i_33, i_34, i_35, i_36, i_37, i_38, i_39, i_40, i_41, i_42, i_43, i_44, i_45, i_48, i_49, i_57, i_59, i_60, i_61, i_62, i_64, i_97, i_110, i_122, i_123, i_125, i_126, i_127, i_160, i_255, i_300, i_400, r_wrongs0, h4', n1, is1, h7, e14, plain]
    · have is1 : f_N_is b (nI 1) M = some (nI 0, M) := r_isF (k := 23) h.1 h7 ht.1 (by omega) c3
      simp (disch := omega) only [↓reduceIte, nI_leT, nI_leF, nI_ltT, nI_ltF, nI_eqT, nI_eqF, xin_T, nI_clampT, nI_add, nI_inc, pk_subT, xb_some, xval, xlet, mI_s, mI_n, mI_k, mI_2, mJ_1, mJ_s, mJ_n, mJ_k, mJ_2, mT_1, mT_2, mT_s, mT_n, mT_k, mT_3, mR_1, mR_2, mR_3, bI_0, bI_1, bI_n0, bI_n1, Bool.true_eq_false, Bool.false_eq_true, eq_self, i_0, i_1, i_2, i_3, i_4, i_5, i_6, i_7, i_8, i_9, i_10, i_11, i_12, i_13, i_14, i_15, i_16, i_17, i_18, i_19, i_20, i_21, i_22, i_23, i_24, i_25, i_26, i_27, i_28, i_29, i_30, i_31, i_32, i_33, i_34, i_35, i_36, i_37, i_38, i_39, i_40, i_41, i_42, i_43, i_44, i_45, i_48, i_49, i_57, i_59, i_60, i_61, i_62, i_64, i_97, i_110, i_122, i_123, i_125, i_126, i_127, i_160, i_255, i_300, i_400, r_wrongs0, h4', n1, is1, plain]
theorem rs_part {M : xMem} {b d tok sc : Nat} {t : List Nat} {r : List qI} {L : qL} (h : nQ M b t r tok sc L) (h4 : M.1 b 4 = -1) (hW : gW t ((7, d, 0, 0) :: r, tok, sc, L)) : nRes M b t (qPart (kT t) d r tok sc L) (f_N_part b (nI d) M) := by
  have ht := hW.tok
  have hT := nT_le t
  obtain ⟨hd1, hd2, hh, hi1⟩ := hW.2.2.1
  have hi1 : d ≤ 12 := hi1
  have hh : r.length ≤ 2 * d + 3 := hh
  have hl := hW.len
  have h7 := h.2.1
  have h8 := h.2.2.1
  have h4' : M.1 b 4 = -nI 1 := h4
  have n1 : (-nI 1 < nI 0) = True := by decide
  have wr := r_wrongs1 h.1 h7 h4 ht.1
  have le := pS_lt t tok h.1.1.2.1
  have ek := (r_kind h.1 ht.1).1
  have wl : (wI M b 4 (nI (pS (pLex t) tok))).1 b 4 = nI (pS (pLex t) tok) := by simp (disch := omega) only [↓reduceIte, nI_leT, nI_leF, nI_ltT, nI_ltF, nI_eqT, nI_eqF, xin_T, nI_clampT, nI_add, nI_inc, pk_subT, xb_some, xval, xlet, mI_s, mI_n, mI_k, mI_2, mJ_1, mJ_s, mJ_n, mJ_k, mJ_2, mT_1, mT_2, mT_s, mT_n, mT_k, mT_3, mR_1, mR_2, mR_3, bI_0, bI_1, bI_n0, bI_n1, Bool.true_eq_false, Bool.false_eq_true, eq_self, i_0, i_1, i_2, i_3, i_4, i_5, i_6, i_7, i_8, i_9, i_10, i_11, i_12, i_13, i_14, i_15, i_16, i_17, i_18, i_19, i_20, i_21, i_22, i_23, i_24, i_25, i_26, i_27, i_28, i_29, i_30, i_31, i_32, i_33, i_34, i_35, i_36, i_37, i_38, i_39, i_40, i_41, i_42, i_43, i_44, i_45, i_48, i_49, i_57, i_59, i_60, i_61, i_62, i_64, i_97, i_110, i_122, i_123, i_125, i_126, i_127, i_160, i_255, i_300, i_400]
  /- which way: wrong, or on -/
  have isT : ∀ k, kT t tok = k → f_N_is b (nI (rk k)) M = some (nI 1, M) := fun k hk => r_isT h.1 h7 ht.1 hk
  have isF : ∀ k, k < 28 → kT t tok ≠ k → f_N_is b (nI (rk k)) M = some (nI 0, M) := fun k h1 hk => r_isF h.1 h7 ht.1 h1 hk
  have down : (kT t tok = 15 ∨ kT t tok = 12 ∨ kT t tok = 16) → f_N_part b (nI d) M = f_N_part_27 b (nI d) M := by
    intro hd
    unfold f_N_part
    by_cases c1 : kT t tok = 15
    · have i1 : f_N_is b (nI 19) M = some (nI 1, M) := isT 15 c1
      simp (disch := omega) only [↓reduceIte, nI_leT, nI_leF, nI_ltT, nI_ltF, nI_eqT, nI_eqF, xin_T, nI_clampT, nI_add, nI_inc, pk_subT, xb_some, xval, xlet, mI_s, mI_n, mI_k, mI_2, mJ_1, mJ_s, mJ_n, mJ_k, mJ_2, mT_1, mT_2, mT_s, mT_n, mT_k, mT_3, mR_1, mR_2, mR_3, bI_0, bI_1, bI_n0, bI_n1, Bool.true_eq_false, Bool.false_eq_true, eq_self, i_0, i_1, i_2, i_3, i_4, i_5, i_6, i_7, i_8, i_9, i_10, i_11, i_12, i_13, i_14, i_15, i_16, i_17, i_18, i_19, i_20, i_21, i_22, i_23, i_24, i_25, i_26, i_27, i_28, i_29, i_30, i_31, i_32, i_33, i_34, i_35, i_36, i_37, i_38, i_39, i_40, i_41, i_42, i_43, i_44, i_45, i_48, i_49, i_57, i_59, i_60, i_61, i_62, i_64, i_97, i_110, i_122, i_123, i_125, i_126, i_127, i_160, i_255, i_300, i_400, i1]
    have i1 : f_N_is b (nI 19) M = some (nI 0, M) := isF 15 (by omega) c1
    by_cases c2 : kT t tok = 12
    · have i2 : f_N_is b (nI 16) M = some (nI 1, M) := isT 12 c2
      simp (disch := omega) only [↓reduceIte, nI_leT, nI_leF, nI_ltT, nI_ltF, nI_eqT, nI_eqF, xin_T, nI_clampT, nI_add, nI_inc, pk_subT, xb_some, xval, xlet, mI_s, mI_n, mI_k, mI_2, mJ_1, mJ_s, mJ_n, mJ_k, mJ_2, mT_1, mT_2, mT_s, mT_n, mT_k, mT_3, mR_1, mR_2, mR_3, bI_0, bI_1, bI_n0, bI_n1, Bool.true_eq_false, Bool.false_eq_true, eq_self, i_0, i_1, i_2, i_3, i_4, i_5, i_6, i_7, i_8, i_9, i_10, i_11, i_12, i_13, i_14, i_15, i_16, i_17, i_18, i_19, i_20, i_21, i_22, i_23, i_24, i_25, i_26, i_27, i_28, i_29, i_30, i_31, i_32, i_33, i_34, i_35, i_36, i_37, i_38, i_39, i_40, i_41, i_42, i_43, i_44, i_45, i_48, i_49, i_57, i_59, i_60, i_61, i_62, i_64, i_97, i_110, i_122, i_123, i_125, i_126, i_127, i_160, i_255, i_300, i_400, i1, i2]
    have i2 : f_N_is b (nI 16) M = some (nI 0, M) := isF 12 (by omega) c2
    have i3 : f_N_is b (nI 20) M = some (nI 1, M) := isT 16 (by omega)
    simp (disch := omega) only [↓reduceIte, nI_leT, nI_leF, nI_ltT, nI_ltF, nI_eqT, nI_eqF, xin_T, nI_clampT, nI_add, nI_inc, pk_subT, xb_some, xval, xlet, mI_s, mI_n, mI_k, mI_2, mJ_1, mJ_s, mJ_n, mJ_k, mJ_2, mT_1, mT_2, mT_s, mT_n, mT_k, mT_3, mR_1, mR_2, mR_3, bI_0, bI_1, bI_n0, bI_n1, Bool.true_eq_false, Bool.false_eq_true, eq_self, i_0, i_1, i_2, i_3, i_4, i_5, i_6, i_7, i_8, i_9, i_10, i_11, i_12, i_13, i_14, i_15, i_16, i_17, i_18, i_19, i_20, i_21, i_22, i_23, i_24, i_25, i_26, i_27, i_28, i_29, i_30, i_31, i_32, i_33, i_34, i_35, i_36, i_37, i_38, i_39, i_40, i_41, i_42, i_43, i_44, i_45, i_48, i_49, i_57, i_59, i_60, i_61, i_62, i_64, i_97, i_110, i_122, i_123, i_125, i_126, i_127, i_160, i_255, i_300, i_400, i1, i2, i3]
  have up : ¬ (kT t tok = 15 ∨ kT t tok = 12 ∨ kT t tok = 16) → f_N_part b (nI d) M = f_N_part_49 b (nI d) (nI 0) (nI 0) M := by
    intro hd
    have i1 : f_N_is b (nI 19) M = some (nI 0, M) := isF 15 (by omega) (by omega)
    have i2 : f_N_is b (nI 16) M = some (nI 0, M) := isF 12 (by omega) (by omega)
    have i3 : f_N_is b (nI 20) M = some (nI 0, M) := isF 16 (by omega) (by omega)
    unfold f_N_part f_N_part_32 f_N_part_48
    simp (disch := omega) only [↓reduceIte, nI_leT, nI_leF, nI_ltT, nI_ltF, nI_eqT, nI_eqF, xin_T, nI_clampT, nI_add, nI_inc, pk_subT, xb_some, xval, xlet, mI_s, mI_n, mI_k, mI_2, mJ_1, mJ_s, mJ_n, mJ_k, mJ_2, mT_1, mT_2, mT_s, mT_n, mT_k, mT_3, mR_1, mR_2, mR_3, bI_0, bI_1, bI_n0, bI_n1, Bool.true_eq_false, Bool.false_eq_true, eq_self, i_0, i_1, i_2, i_3, i_4, i_5, i_6, i_7, i_8, i_9, i_10, i_11, i_12, i_13, i_14, i_15, i_16, i_17, i_18, i_19, i_20, i_21, i_22, i_23, i_24, i_25, i_26, i_27, i_28, i_29, i_30, i_31, i_32, i_33, i_34, i_35, i_36, i_37, i_38, i_39, i_40, i_41, i_42, i_43, i_44, i_45, i_48, i_49, i_57, i_59, i_60, i_61, i_62, i_64, i_97, i_110, i_122, i_123, i_125, i_126, i_127, i_160, i_255, i_300, i_400, i1, i2, i3]
  have bad86 : ∀ v2 v, f_N_part_86 b (nI d) v2 v (wI M b 4 (nI (pS (pLex t) tok))) = some ((), wI M b 4 (nI (pS (pLex t) tok))) := by
    intro v2 v
    unfold f_N_part_86 f_N_wrongs
    have n2 : (nI (pS (pLex t) tok) < nI 0) = False := eq_false (nI_nlt (by omega) (by omega))
    have n3 : (nI 0 ≤ nI (pS (pLex t) tok)) = True := eq_true (nI_le (by omega) (by omega))
    by_cases c : v = 0
    · subst c
      simp (disch := omega) only [↓reduceIte, nI_leT, nI_leF, nI_ltT, nI_ltF, nI_eqT, nI_eqF, xin_T, nI_clampT, nI_add, nI_inc, pk_subT, xb_some, xval, xlet, mI_s, mI_n, mI_k, mI_2, mJ_1, mJ_s, mJ_n, mJ_k, mJ_2, mT_1, mT_2, mT_s, mT_n, mT_k, mT_3, mR_1, mR_2, mR_3, bI_0, bI_1, bI_n0, bI_n1, Bool.true_eq_false, Bool.false_eq_true, eq_self, i_0, i_1, i_2, i_3, i_4, i_5, i_6, i_7, i_8, i_9, i_10, i_11, i_12, i_13, i_14, i_15, i_16, i_17, i_18, i_19, i_20, i_21, i_22, i_23, i_24, i_25, i_26, i_27, i_28, i_29, i_30, i_31, i_32, i_33, i_34, i_35, i_36, i_37, i_38, i_39, i_40, i_41, i_42, i_43, i_44, i_45, i_48, i_49, i_57, i_59, i_60, i_61, i_62, i_64, i_97, i_110, i_122, i_123, i_125, i_126, i_127, i_160, i_255, i_300, i_400, wl, n2]
    · rw [if_neg c]
      simp (disch := omega) only [↓reduceIte, nI_leT, nI_leF, nI_ltT, nI_ltF, nI_eqT, nI_eqF, xin_T, nI_clampT, nI_add, nI_inc, pk_subT, xb_some, xval, xlet, mI_s, mI_n, mI_k, mI_2, mJ_1, mJ_s, mJ_n, mJ_k, mJ_2, mT_1, mT_2, mT_s, mT_n, mT_k, mT_3, mR_1, mR_2, mR_3, bI_0, bI_1, bI_n0, bI_n1, Bool.true_eq_false, Bool.false_eq_true, eq_self, i_0, i_1, i_2, i_3, i_4, i_5, i_6, i_7, i_8, i_9, i_10, i_11, i_12, i_13, i_14, i_15, i_16, i_17, i_18, i_19, i_20, i_21, i_22, i_23, i_24, i_25, i_26, i_27, i_28, i_29, i_30, i_31, i_32, i_33, i_34, i_35, i_36, i_37, i_38, i_39, i_40, i_41, i_42, i_43, i_44, i_45, i_48, i_49, i_57, i_59, i_60, i_61, i_62, i_64, i_97, i_110, i_122, i_123, i_125, i_126, i_127, i_160, i_255, i_300, i_400, wl, n2, n3]
  have on1 : ∀ v2, kT t tok ≠ 23 → f_N_part_86 b (nI d) v2 (nI 0) M = f_N_part_121 b (nI d) v2 (nI (rk (kT t tok))) M := by
    intro v2 hk
    have ne : rk (kT t tok) ≠ 1 := fun e => hk (rk_inj _ (kT_lt t _) 23 (by omega) e)
    have l := rk_lt _ (kT_lt t tok)
    unfold f_N_part_86
    simp (disch := omega) only [↓reduceIte, nI_leT, nI_leF, nI_ltT, nI_ltF, nI_eqT, nI_eqF, xin_T, nI_clampT, nI_add, nI_inc, pk_subT, xb_some, xval, xlet, mI_s, mI_n, mI_k, mI_2, mJ_1, mJ_s, mJ_n, mJ_k, mJ_2, mT_1, mT_2, mT_s, mT_n, mT_k, mT_3, mR_1, mR_2, mR_3, bI_0, bI_1, bI_n0, bI_n1, Bool.true_eq_false, Bool.false_eq_true, eq_self, i_0, i_1, i_2, i_3, i_4, i_5, i_6, i_7, i_8, i_9, i_10, i_11, i_12, i_13, i_14, i_15, i_16, i_17, i_18, i_19, i_20, i_21, i_22, i_23, i_24, i_25, i_26, i_27, i_28, i_29, i_30, i_31, i_32, i_33, i_34, i_35, i_36, i_37, i_38, i_39, i_40, i_41, i_42, i_43, i_44, i_45, i_48, i_49, i_57, i_59, i_60, i_61, i_62, i_64, i_97, i_110, i_122, i_123, i_125, i_126, i_127, i_160, i_255, i_300, i_400, r_wrongs0, h4', n1, h7, ek]
  have pt49 : (kT t tok = 23 ∨ kT t tok = 24 ∨ kT t tok = 25) → f_N_part_49 b (nI d) (nI 0) (nI 0) M = f_N_part_86 b (nI d) (nI 0) (nI 0) M := by
    intro hk
    unfold f_N_part_49 f_N_part_85
    by_cases e1 : kT t tok = 23
    · have i4 : f_N_is b (nI 1) M = some (nI 1, M) := isT 23 e1
      simp (disch := omega) only [↓reduceIte, nI_leT, nI_leF, nI_ltT, nI_ltF, nI_eqT, nI_eqF, xin_T, nI_clampT, nI_add, nI_inc, pk_subT, xb_some, xval, xlet, mI_s, mI_n, mI_k, mI_2, mJ_1, mJ_s, mJ_n, mJ_k, mJ_2, mT_1, mT_2, mT_s, mT_n, mT_k, mT_3, mR_1, mR_2, mR_3, bI_0, bI_1, bI_n0, bI_n1, Bool.true_eq_false, Bool.false_eq_true, eq_self, i_0, i_1, i_2, i_3, i_4, i_5, i_6, i_7, i_8, i_9, i_10, i_11, i_12, i_13, i_14, i_15, i_16, i_17, i_18, i_19, i_20, i_21, i_22, i_23, i_24, i_25, i_26, i_27, i_28, i_29, i_30, i_31, i_32, i_33, i_34, i_35, i_36, i_37, i_38, i_39, i_40, i_41, i_42, i_43, i_44, i_45, i_48, i_49, i_57, i_59, i_60, i_61, i_62, i_64, i_97, i_110, i_122, i_123, i_125, i_126, i_127, i_160, i_255, i_300, i_400, r_wrongs0, i4]
    have i4 : f_N_is b (nI 1) M = some (nI 0, M) := isF 23 (by omega) e1
    by_cases e2 : kT t tok = 24
    · have i5 : f_N_is b (nI 2) M = some (nI 1, M) := isT 24 e2
      simp (disch := omega) only [↓reduceIte, nI_leT, nI_leF, nI_ltT, nI_ltF, nI_eqT, nI_eqF, xin_T, nI_clampT, nI_add, nI_inc, pk_subT, xb_some, xval, xlet, mI_s, mI_n, mI_k, mI_2, mJ_1, mJ_s, mJ_n, mJ_k, mJ_2, mT_1, mT_2, mT_s, mT_n, mT_k, mT_3, mR_1, mR_2, mR_3, bI_0, bI_1, bI_n0, bI_n1, Bool.true_eq_false, Bool.false_eq_true, eq_self, i_0, i_1, i_2, i_3, i_4, i_5, i_6, i_7, i_8, i_9, i_10, i_11, i_12, i_13, i_14, i_15, i_16, i_17, i_18, i_19, i_20, i_21, i_22, i_23, i_24, i_25, i_26, i_27, i_28, i_29, i_30, i_31, i_32, i_33, i_34, i_35, i_36, i_37, i_38, i_39, i_40, i_41, i_42, i_43, i_44, i_45, i_48, i_49, i_57, i_59, i_60, i_61, i_62, i_64, i_97, i_110, i_122, i_123, i_125, i_126, i_127, i_160, i_255, i_300, i_400, r_wrongs0, i4, i5]
    have i5 : f_N_is b (nI 2) M = some (nI 0, M) := isF 24 (by omega) e2
    have i6 : f_N_is b (nI 3) M = some (nI 1, M) := isT 25 (by omega)
    simp (disch := omega) only [↓reduceIte, nI_leT, nI_leF, nI_ltT, nI_ltF, nI_eqT, nI_eqF, xin_T, nI_clampT, nI_add, nI_inc, pk_subT, xb_some, xval, xlet, mI_s, mI_n, mI_k, mI_2, mJ_1, mJ_s, mJ_n, mJ_k, mJ_2, mT_1, mT_2, mT_s, mT_n, mT_k, mT_3, mR_1, mR_2, mR_3, bI_0, bI_1, bI_n0, bI_n1, Bool.true_eq_false, Bool.false_eq_true, eq_self, i_0, i_1, i_2, i_3, i_4, i_5, i_6, i_7, i_8, i_9, i_10, i_11, i_12, i_13, i_14, i_15, i_16, i_17, i_18, i_19, i_20, i_21, i_22, i_23, i_24, i_25, i_26, i_27, i_28, i_29, i_30, i_31, i_32, i_33, i_34, i_35, i_36, i_37, i_38, i_39, i_40, i_41, i_42, i_43, i_44, i_45, i_48, i_49, i_57, i_59, i_60, i_61, i_62, i_64, i_97, i_110, i_122, i_123, i_125, i_126, i_127, i_160, i_255, i_300, i_400, r_wrongs0, i4, i5, i6]
  have pt27 : d ≠ 12 → f_N_part_27 b (nI d) M = f_N_part_86 b (nI d) (nI 1) (nI 0) M := by
    intro hd
    unfold f_N_part_27 f_N_part_32 f_N_part_48 f_N_part_49 f_N_part_85
    simp (disch := omega) only [↓reduceIte, nI_leT, nI_leF, nI_ltT, nI_ltF, nI_eqT, nI_eqF, xin_T, nI_clampT, nI_add, nI_inc, pk_subT, xb_some, xval, xlet, mI_s, mI_n, mI_k, mI_2, mJ_1, mJ_s, mJ_n, mJ_k, mJ_2, mT_1, mT_2, mT_s, mT_n, mT_k, mT_3, mR_1, mR_2, mR_3, bI_0, bI_1, bI_n0, bI_n1, Bool.true_eq_false, Bool.false_eq_true, eq_self, i_0, i_1, i_2, i_3, i_4, i_5, i_6, i_7, i_8, i_9, i_10, i_11, i_12, i_13, i_14, i_15, i_16, i_17, i_18, i_19, i_20, i_21, i_22, i_23, i_24, i_25, i_26, i_27, i_28, i_29, i_30, i_31, i_32, i_33, i_34, i_35, i_36, i_37, i_38, i_39, i_40, i_41, i_42, i_43, i_44, i_45, i_48, i_49, i_57, i_59, i_60, i_61, i_62, i_64, i_97, i_110, i_122, i_123, i_125, i_126, i_127, i_160, i_255, i_300, i_400, r_wrongs0]
  unfold qPart
  by_cases c1 : kT t tok = 24 ∨ kT t tok = 25
  · rw [if_pos c1, up (by omega)]
    refine .inr (M' := wI M b 7 (nI (tok + 1))) ?_ gr_7 h.at (by rw [mI_k (by decide)]; exact h4)
    rw [pt49 (by omega), on1 _ (by omega)]
    unfold f_N_part_121
    rcases c1 with c1 | c1
    · rw [c1, show rk 24 = 2 from rfl]
      simp (disch := omega) only [↓reduceIte, nI_leT, nI_leF, nI_ltT, nI_ltF, nI_eqT, nI_eqF, xin_T, nI_clampT, nI_add, nI_inc, pk_subT, xb_some, xval, xlet, mI_s, mI_n, mI_k, mI_2, mJ_1, mJ_s, mJ_n, mJ_k, mJ_2, mT_1, mT_2, mT_s, mT_n, mT_k, mT_3, mR_1, mR_2, mR_3, bI_0, bI_1, bI_n0, bI_n1, Bool.true_eq_false, Bool.false_eq_true, eq_self, i_0, i_1, i_2, i_3, i_4, i_5, i_6, i_7, i_8, i_9, i_10, i_11, i_12, i_13, i_14, i_15, i_16, i_17, i_18, i_19, i_20, i_21, i_22, i_23, i_24, i_25, i_26, i_27, i_28, i_29, i_30, i_31, i_32, i_33, i_34, i_35, i_36, i_37, i_38, i_39, i_40, i_41, i_42, i_43, i_44, i_45, i_48, i_49, i_57, i_59, i_60, i_61, i_62, i_64, i_97, i_110, i_122, i_123, i_125, i_126, i_127, i_160, i_255, i_300, i_400, h7]
    · rw [c1, show rk 25 = 3 from rfl]
      simp (disch := omega) only [↓reduceIte, nI_leT, nI_leF, nI_ltT, nI_ltF, nI_eqT, nI_eqF, xin_T, nI_clampT, nI_add, nI_inc, pk_subT, xb_some, xval, xlet, mI_s, mI_n, mI_k, mI_2, mJ_1, mJ_s, mJ_n, mJ_k, mJ_2, mT_1, mT_2, mT_s, mT_n, mT_k, mT_3, mR_1, mR_2, mR_3, bI_0, bI_1, bI_n0, bI_n1, Bool.true_eq_false, Bool.false_eq_true, eq_self, i_0, i_1, i_2, i_3, i_4, i_5, i_6, i_7, i_8, i_9, i_10, i_11, i_12, i_13, i_14, i_15, i_16, i_17, i_18, i_19, i_20, i_21, i_22, i_23, i_24, i_25, i_26, i_27, i_28, i_29, i_30, i_31, i_32, i_33, i_34, i_35, i_36, i_37, i_38, i_39, i_40, i_41, i_42, i_43, i_44, i_45, i_48, i_49, i_57, i_59, i_60, i_61, i_62, i_64, i_97, i_110, i_122, i_123, i_125, i_126, i_127, i_160, i_255, i_300, i_400, h7]
  rw [if_neg c1]
  by_cases c2 : kT t tok = 23
  · rw [if_pos c2, up (by omega)]
    have t1 := g_T t tok ht.1 (by omega)
    have i4 : f_N_is b (nI 1) M = some (nI 1, M) := isT 23 c2
    have ek' : M.1 (b + 8) tok = nI 1 := by rw [ek, c2]; rfl
    have us := r_use (p := tok) (w := 0) h.2.2.2.2.2.2.2.2.1.1 h.2.2.2.2.1 (by omega) (by omega)
    have qu := h.use (p := tok) (s := sc) (w := 0)
    have q1 := qu.at (tok' := tok + 1)
    have hu7 := qu.2.1
    have hu4 : (nUse M b (L 2).length tok sc 0).1 b 4 = -1 := by rw [nUse_fr.2 _ _ (by unfold nUseS; omega)]; exact h4
    have ug : rF (rGrS b) M (nUse M b (L 2).length tok sc 0) := nUse_fr.mono (by intro a k; unfold nUseS rGrS; omega)
    have o86 : f_N_part_86 b (nI d) (nI 0) (nI 0) M = f_N_part_121 b (nI d) (nI 0) (nI 1) (nUse M b (L 2).length tok sc 0) := by
      unfold f_N_part_86
      simp (disch := omega) only [↓reduceIte, nI_leT, nI_leF, nI_ltT, nI_ltF, nI_eqT, nI_eqF, xin_T, nI_clampT, nI_add, nI_inc, pk_subT, xb_some, xval, xlet, mI_s, mI_n, mI_k, mI_2, mJ_1, mJ_s, mJ_n, mJ_k, mJ_2, mT_1, mT_2, mT_s, mT_n, mT_k, mT_3, mR_1, mR_2, mR_3, bI_0, bI_1, bI_n0, bI_n1, Bool.true_eq_false, Bool.false_eq_true, eq_self, i_0, i_1, i_2, i_3, i_4, i_5, i_6, i_7, i_8, i_9, i_10, i_11, i_12, i_13, i_14, i_15, i_16, i_17, i_18, i_19, i_20, i_21, i_22, i_23, i_24, i_25, i_26, i_27, i_28, i_29, i_30, i_31, i_32, i_33, i_34, i_35, i_36, i_37, i_38, i_39, i_40, i_41, i_42, i_43, i_44, i_45, i_48, i_49, i_57, i_59, i_60, i_61, i_62, i_64, i_97, i_110, i_122, i_123, i_125, i_126, i_127, i_160, i_255, i_300, i_400, r_wrongs0, h4', n1, h7, ek', us]
    rw [pt49 (by omega), o86]
    unfold f_N_part_121
    by_cases c3 : kT t (tok + 1) = 16
    · rw [if_neg (by omega)]
      have t2 := g_T t (tok + 1) t1 (by omega)
      have j1 : f_N_is b (nI 20) (wI (nUse M b (L 2).length tok sc 0) b 7 (nI (tok + 1))) = some (nI 1, _) := r_isT (k := 16) q1.1 q1.2.1 t1 c3
      have q2 := q1.at (tok' := tok + 2)
      have h71 := q1.2.1
      have h72 := q2.2.1
      by_cases c4 : kT t (tok + 2) = 17
      · rw [if_pos c4]
        have j2 : f_N_is b (nI 21) (wI (wI (nUse M b (L 2).length tok sc 0) b 7 (nI (tok + 1))) b 7 (nI (tok + 2))) = some (nI 1, _) := r_isT (k := 17) q2.1 q2.2.1 t2 c4
        refine .inr (M' := wI (wI (wI (nUse M b (L 2).length tok sc 0) b 7 (nI (tok + 1))) b 7 (nI (tok + 2))) b 7 (nI (tok + 3))) ?_ (((ug.trans gr_7).trans gr_7).trans gr_7) q2.at (by rw [mI_k (by decide), mI_k (by decide), mI_k (by decide)]; exact hu4)
        simp (disch := omega) only [↓reduceIte, nI_leT, nI_leF, nI_ltT, nI_ltF, nI_eqT, nI_eqF, xin_T, nI_clampT, nI_add, nI_inc, pk_subT, xb_some, xval, xlet, mI_s, mI_n, mI_k, mI_2, mJ_1, mJ_s, mJ_n, mJ_k, mJ_2, mT_1, mT_2, mT_s, mT_n, mT_k, mT_3, mR_1, mR_2, mR_3, bI_0, bI_1, bI_n0, bI_n1, Bool.true_eq_false, Bool.false_eq_true, eq_self, i_0, i_1, i_2, i_3, i_4, i_5, i_6, i_7, i_8, i_9, i_10, i_11, i_12, i_13, i_14, i_15, i_16, i_17, i_18, i_19, i_20, i_21, i_22, i_23, i_24, i_25, i_26, i_27, i_28, i_29, i_30, i_31, i_32, i_33, i_34, i_35, i_36, i_37, i_38, i_39, i_40, i_41, i_42, i_43, i_44, i_45, i_48, i_49, i_57, i_59, i_60, i_61, i_62, i_64, i_97, i_110, i_122, i_123, i_125, i_126, i_127, i_160, i_255, i_300, i_400, hu7, j1, j2]
      · rw [if_neg c4]
        have j2 : f_N_is b (nI 21) (wI (wI (nUse M b (L 2).length tok sc 0) b 7 (nI (tok + 1))) b 7 (nI (tok + 2))) = some (nI 0, _) := r_isF (k := 17) q2.1 q2.2.1 t2 (by omega) c4
        have p1 := r_push (M := wI (wI (nUse M b (L 2).length tok sc 0) b 7 (nI (tok + 1))) b 7 (nI (tok + 2))) (b := b) (w := 8) (d := d) (a := nI 0) (c := 0) q2.2.2.1 (by omega)
        have q3 := q2.push (8, d, 0, 0)
        have p2 := r_push (b := b) (w := 5) (d := d + 1) (a := nI 1) (c := 0) q3.2.2.1 (by simp only [List.length_cons]; omega)
        rw [show ((8, d, 0, 0) :: r).length = r.length + 1 from rfl, show nA (8, d, 0, 0) = nI 0 from rfl] at p2
        dsimp only at p2
        refine .inr (M' := mPush (mPush (wI (wI (nUse M b (L 2).length tok sc 0) b 7 (nI (tok + 1))) b 7 (nI (tok + 2))) b r.length 8 d (nI 0) 0) b (r.length + 1) 5 (d + 1) (nI 1) 0) ?_ ((((ug.trans gr_7).trans gr_7).trans mPush_gr).trans mPush_gr) (q3.push (5, d + 1, 1, 0)) (by rw [mPush_4, mPush_4, mI_k (by decide), mI_k (by decide)]; exact hu4)
        simp (disch := omega) only [↓reduceIte, nI_leT, nI_leF, nI_ltT, nI_ltF, nI_eqT, nI_eqF, xin_T, nI_clampT, nI_add, nI_inc, pk_subT, xb_some, xval, xlet, mI_s, mI_n, mI_k, mI_2, mJ_1, mJ_s, mJ_n, mJ_k, mJ_2, mT_1, mT_2, mT_s, mT_n, mT_k, mT_3, mR_1, mR_2, mR_3, bI_0, bI_1, bI_n0, bI_n1, Bool.true_eq_false, Bool.false_eq_true, eq_self, i_0, i_1, i_2, i_3, i_4, i_5, i_6, i_7, i_8, i_9, i_10, i_11, i_12, i_13, i_14, i_15, i_16, i_17, i_18, i_19, i_20, i_21, i_22, i_23, i_24, i_25, i_26, i_27, i_28, i_29, i_30, i_31, i_32, i_33, i_34, i_35, i_36, i_37, i_38, i_39, i_40, i_41, i_42, i_43, i_44, i_45, i_48, i_49, i_57, i_59, i_60, i_61, i_62, i_64, i_97, i_110, i_122, i_123, i_125, i_126, i_127, i_160, i_255, i_300, i_400, hu7, j1, j2, p1, p2]
    · rw [if_pos c3]
      have j1 : f_N_is b (nI 20) (wI (nUse M b (L 2).length tok sc 0) b 7 (nI (tok + 1))) = some (nI 0, _) := r_isF (k := 16) q1.1 q1.2.1 t1 (by omega) c3
      refine .inr (M' := wI (nUse M b (L 2).length tok sc 0) b 7 (nI (tok + 1))) ?_ (ug.trans gr_7) q1 (by rw [mI_k (by decide)]; exact hu4)
      simp (disch := omega) only [↓reduceIte, nI_leT, nI_leF, nI_ltT, nI_ltF, nI_eqT, nI_eqF, xin_T, nI_clampT, nI_add, nI_inc, pk_subT, xb_some, xval, xlet, mI_s, mI_n, mI_k, mI_2, mJ_1, mJ_s, mJ_n, mJ_k, mJ_2, mT_1, mT_2, mT_s, mT_n, mT_k, mT_3, mR_1, mR_2, mR_3, bI_0, bI_1, bI_n0, bI_n1, Bool.true_eq_false, Bool.false_eq_true, eq_self, i_0, i_1, i_2, i_3, i_4, i_5, i_6, i_7, i_8, i_9, i_10, i_11, i_12, i_13, i_14, i_15, i_16, i_17, i_18, i_19, i_20, i_21, i_22, i_23, i_24, i_25, i_26, i_27, i_28, i_29, i_30, i_31, i_32, i_33, i_34, i_35, i_36, i_37, i_38, i_39, i_40, i_41, i_42, i_43, i_44, i_45, i_48, i_49, i_57, i_59, i_60, i_61, i_62, i_64, i_97, i_110, i_122, i_123, i_125, i_126, i_127, i_160, i_255, i_300, i_400, hu7, j1]
  rw [if_neg c2]
  by_cases c3 : kT t tok = 15 ∨ kT t tok = 12
  · rw [if_pos c3, down (by omega)]
    have i4 : f_N_is b (nI 1) M = some (nI 0, M) := isF 23 (by omega) c2
    by_cases c4 : d = 12
    · rw [if_pos c4]
      refine .inl (M' := wI M b 4 (nI (pS (pLex t) tok))) ?_ gr_4 wl
      unfold f_N_part_27 f_N_part_32 f_N_part_49 f_N_part_85
      rw [c4] at bad86 ⊢
      simp (disch := omega) only [↓reduceIte, nI_leT, nI_leF, nI_ltT, nI_ltF, nI_eqT, nI_eqF, xin_T, nI_clampT, nI_add, nI_inc, pk_subT, xb_some, xval, xlet, mI_s, mI_n, mI_k, mI_2, mJ_1, mJ_s, mJ_n, mJ_k, mJ_2, mT_1, mT_2, mT_s, mT_n, mT_k, mT_3, mR_1, mR_2, mR_3, bI_0, bI_1, bI_n0, bI_n1, Bool.true_eq_false, Bool.false_eq_true, eq_self, i_0, i_1, i_2, i_3, i_4, i_5, i_6, i_7, i_8, i_9, i_10, i_11, i_12, i_13, i_14, i_15, i_16, i_17, i_18, i_19, i_20, i_21, i_22, i_23, i_24, i_25, i_26, i_27, i_28, i_29, i_30, i_31, i_32, i_33, i_34, i_35, i_36, i_37, i_38, i_39, i_40, i_41, i_42, i_43, i_44, i_45, i_48, i_49, i_57, i_59, i_60, i_61, i_62, i_64, i_97, i_110, i_122, i_123, i_125, i_126, i_127, i_160, i_255, i_300, i_400, wr, bad86]
    · rw [if_neg c4]
      have p1 := r_push (b := b) (w := 7) (d := d + 1) (a := nI 0) (c := 0) (h.at (tok' := tok + 1)).2.2.1 (by omega)
      refine .inr (M' := mPush (wI M b 7 (nI (tok + 1))) b r.length 7 (d + 1) (nI 0) 0) ?_ (gr_7.trans mPush_gr) ((h.at (tok' := tok + 1)).push (7, d + 1, 0, 0)) (by rw [mPush_4, mI_k (by decide)]; exact h4)
      rw [pt27 c4, on1 _ c2]
      unfold f_N_part_121 f_N_part_143
      rcases c3 with c3 | c3
      · rw [c3, show rk 15 = 19 from rfl]
        simp (disch := omega) only [↓reduceIte, nI_leT, nI_leF, nI_ltT, nI_ltF, nI_eqT, nI_eqF, xin_T, nI_clampT, nI_add, nI_inc, pk_subT, xb_some, xval, xlet, mI_s, mI_n, mI_k, mI_2, mJ_1, mJ_s, mJ_n, mJ_k, mJ_2, mT_1, mT_2, mT_s, mT_n, mT_k, mT_3, mR_1, mR_2, mR_3, bI_0, bI_1, bI_n0, bI_n1, Bool.true_eq_false, Bool.false_eq_true, eq_self, i_0, i_1, i_2, i_3, i_4, i_5, i_6, i_7, i_8, i_9, i_10, i_11, i_12, i_13, i_14, i_15, i_16, i_17, i_18, i_19, i_20, i_21, i_22, i_23, i_24, i_25, i_26, i_27, i_28, i_29, i_30, i_31, i_32, i_33, i_34, i_35, i_36, i_37, i_38, i_39, i_40, i_41, i_42, i_43, i_44, i_45, i_48, i_49, i_57, i_59, i_60, i_61, i_62, i_64, i_97, i_110, i_122, i_123, i_125, i_126, i_127, i_160, i_255, i_300, i_400, h7, p1]
      · rw [c3, show rk 12 = 16 from rfl]
        simp (disch := omega) only [↓reduceIte, nI_leT, nI_leF, nI_ltT, nI_ltF, nI_eqT, nI_eqF, xin_T, nI_clampT, nI_add, nI_inc, pk_subT, xb_some, xval, xlet, mI_s, mI_n, mI_k, mI_2, mJ_1, mJ_s, mJ_n, mJ_k, mJ_2, mT_1, mT_2, mT_s, mT_n, mT_k, mT_3, mR_1, mR_2, mR_3, bI_0, bI_1, bI_n0, bI_n1, Bool.true_eq_false, Bool.false_eq_true, eq_self, i_0, i_1, i_2, i_3, i_4, i_5, i_6, i_7, i_8, i_9, i_10, i_11, i_12, i_13, i_14, i_15, i_16, i_17, i_18, i_19, i_20, i_21, i_22, i_23, i_24, i_25, i_26, i_27, i_28, i_29, i_30, i_31, i_32, i_33, i_34, i_35, i_36, i_37, i_38, i_39, i_40, i_41, i_42, i_43, i_44, i_45, i_48, i_49, i_57, i_59, i_60, i_61, i_62, i_64, i_97, i_110, i_122, i_123, i_125, i_126, i_127, i_160, i_255, i_300, i_400, h7, p1]
  rw [if_neg c3]
  by_cases c5 : kT t tok = 16
  · rw [if_pos c5, down (by omega)]
    by_cases c4 : d = 12
    · rw [if_pos c4]
      refine .inl (M' := wI M b 4 (nI (pS (pLex t) tok))) ?_ gr_4 wl
      unfold f_N_part_27 f_N_part_32 f_N_part_49 f_N_part_85
      rw [c4] at bad86 ⊢
      simp (disch := omega) only [↓reduceIte, nI_leT, nI_leF, nI_ltT, nI_ltF, nI_eqT, nI_eqF, xin_T, nI_clampT, nI_add, nI_inc, pk_subT, xb_some, xval, xlet, mI_s, mI_n, mI_k, mI_2, mJ_1, mJ_s, mJ_n, mJ_k, mJ_2, mT_1, mT_2, mT_s, mT_n, mT_k, mT_3, mR_1, mR_2, mR_3, bI_0, bI_1, bI_n0, bI_n1, Bool.true_eq_false, Bool.false_eq_true, eq_self, i_0, i_1, i_2, i_3, i_4, i_5, i_6, i_7, i_8, i_9, i_10, i_11, i_12, i_13, i_14, i_15, i_16, i_17, i_18, i_19, i_20, i_21, i_22, i_23, i_24, i_25, i_26, i_27, i_28, i_29, i_30, i_31, i_32, i_33, i_34, i_35, i_36, i_37, i_38, i_39, i_40, i_41, i_42, i_43, i_44, i_45, i_48, i_49, i_57, i_59, i_60, i_61, i_62, i_64, i_97, i_110, i_122, i_123, i_125, i_126, i_127, i_160, i_255, i_300, i_400, wr, bad86]
    · rw [if_neg c4]
      have q1 := h.at (tok' := tok + 1)
      have p1 := r_push (b := b) (w := 4) (d := d) (a := nI 21) (c := 0) q1.2.2.1 (by omega)
      have q2 := q1.push (4, d, 17, 0)
      have p2 := r_push (b := b) (w := 5) (d := d + 1) (a := nI 0) (c := 0) q2.2.2.1 (by simp only [List.length_cons]; omega)
      rw [show ((4, d, 17, 0) :: r).length = r.length + 1 from rfl, show nA (4, d, 17, 0) = nI 21 from rfl] at p2
      dsimp only at p2
      refine .inr (M' := mPush (mPush (wI M b 7 (nI (tok + 1))) b r.length 4 d (nI 21) 0) b (r.length + 1) 5 (d + 1) (nI 0) 0) ?_ ((gr_7.trans mPush_gr).trans mPush_gr) (q2.push (5, d + 1, 0, 0)) (by rw [mPush_4, mPush_4, mI_k (by decide)]; exact h4)
      rw [pt27 c4, on1 _ c2, c5, show rk 16 = 20 from rfl]
      unfold f_N_part_121
      simp (disch := omega) only [↓reduceIte, nI_leT, nI_leF, nI_ltT, nI_ltF, nI_eqT, nI_eqF, xin_T, nI_clampT, nI_add, nI_inc, pk_subT, xb_some, xval, xlet, mI_s, mI_n, mI_k, mI_2, mJ_1, mJ_s, mJ_n, mJ_k, mJ_2, mT_1, mT_2, mT_s, mT_n, mT_k, mT_3, mR_1, mR_2, mR_3, bI_0, bI_1, bI_n0, bI_n1, Bool.true_eq_false, Bool.false_eq_true, eq_self, i_0, i_1, i_2, i_3, i_4, i_5, i_6, i_7, i_8, i_9, i_10, i_11, i_12, i_13, i_14, i_15, i_16, i_17, i_18, i_19, i_20, i_21, i_22, i_23, i_24, i_25, i_26, i_27, i_28, i_29, i_30, i_31, i_32, i_33, i_34, i_35, i_36, i_37, i_38, i_39, i_40, i_41, i_42, i_43, i_44, i_45, i_48, i_49, i_57, i_59, i_60, i_61, i_62, i_64, i_97, i_110, i_122, i_123, i_125, i_126, i_127, i_160, i_255, i_300, i_400, h7, p1, p2]
  · rw [if_neg c5, up (by omega)]
    refine .inl (M' := wI M b 4 (nI (pS (pLex t) tok))) ?_ gr_4 wl
    have i4 : f_N_is b (nI 1) M = some (nI 0, M) := isF 23 (by omega) (by omega)
    have i5 : f_N_is b (nI 2) M = some (nI 0, M) := isF 24 (by omega) (by omega)
    have i6 : f_N_is b (nI 3) M = some (nI 0, M) := isF 25 (by omega) (by omega)
    unfold f_N_part_49 f_N_part_86
    have n2 : (nI (pS (pLex t) tok) < nI 0) = False := eq_false (nI_nlt (by omega) (by omega))
    simp (disch := omega) only [↓reduceIte, nI_leT, nI_leF, nI_ltT, nI_ltF, nI_eqT, nI_eqF, xin_T, nI_clampT, nI_add, nI_inc, pk_subT, xb_some, xval, xlet, mI_s, mI_n, mI_k, mI_2, mJ_1, mJ_s, mJ_n, mJ_k, mJ_2, mT_1, mT_2, mT_s, mT_n, mT_k, mT_3, mR_1, mR_2, mR_3, bI_0, bI_1, bI_n0, bI_n1, Bool.true_eq_false, Bool.false_eq_true, eq_self, i_0, i_1, i_2, i_3, i_4, i_5, i_6, i_7, i_8, i_9, i_10, i_11, i_12, i_13, i_14, i_15, i_16, i_17, i_18, i_19, i_20, i_21, i_22, i_23, i_24, i_25, i_26, i_27, i_28, i_29, i_30, i_31, i_32, i_33, i_34, i_35, i_36, i_37, i_38, i_39, i_40, i_41, i_42, i_43, i_44, i_45, i_48, i_49, i_57, i_59, i_60, i_61, i_62, i_64, i_97, i_110, i_122, i_123, i_125, i_126, i_127, i_160, i_255, i_300, i_400, r_wrongs0, i4, i5, i6, wr, n2]
