/-! PURE: the reference's memory operations (printed by gen_nq.py) -/
def nAgain (M : xMem) (b : Nat) (n p : Nat) : xMem := wI (wI M (b + 28) n (nI p)) b 54 (nI (n + 1))
def nAgainS (b : Nat) (a k : Nat) : Prop := (a = b ∧ k = 54) ∨ a = b + 28
theorem nAgain_fr {M : xMem} {b : Nat} {n p : Nat} : rF (nAgainS b) M (nAgain M b n p) := by
  unfold nAgain
  exact (((rF.I (by unfold nAgainS; omega))).trans (rF.I (by unfold nAgainS; omega)))
theorem nQ_nAgain {M : xMem} {b tok sc : Nat} {t : List Nat} {r : List qI} {L : qL} {q : Nat} (h : nQ M b t r tok sc L)  : nQ (nAgain M b (L 14).length (pS (pLex t) q)) b t r tok sc (qA 14 (q, 0, 0, 0, 0) L) := by
  obtain ⟨h1, h2, h3, h4, h5, k0, k5, k1, k2, k14, k15, k16, k6, k18, k19, k4, kx⟩ := h
  have f := nAgain_fr (M := M) (b := b) (n := (L 14).length) (p := (pS (pLex t) q))
  refine ⟨h1.gr (f.mono (by intro a k; unfold nAgainS rGrS; omega)), ?_, ?_, h4.to ?_, ?_, k0.fr f ?_ ?_, k5.fr f ?_ ?_, k1.fr f ?_ ?_, k2.fr f ?_ ?_, ?_, k15.fr f ?_ ?_, k16.fr f ?_ ?_, k6.fr f ?_ ?_, k18.fr f ?_ ?_, k19.fr f ?_ ?_, k4.fr f ?_ ?_, ?_⟩
  all_goals first
    | (rw [f.2 _ _ (by unfold nAgainS; omega)]; assumption)
    | (unfold nAgainS; omega)
    | (intro a h j; simp [c0, c1, c14, c15, c16, c18, c19, c2, c4, c5, c6] at h; unfold nAgainS; omega)
    | (intro a j q1 q2 q3; exact f.2 _ _ (by unfold nAgainS; omega))
    | (intro i hi hn; rw [f.2 _ _ (by unfold nAgainS; omega)]; exact kx i hi hn)
    | (unfold nAgain; simp (disch := omega) only [↓reduceIte, nI_leT, nI_leF, nI_ltT, nI_ltF, nI_eqT, nI_eqF, xin_T, nI_clampT, nI_add, nI_inc, pk_subT, xb_some, xval, xlet, mI_s, mI_n, mI_k, mI_2, mJ_1, mJ_s, mJ_n, mJ_k, mJ_2, mT_1, mT_2, mT_s, mT_n, mT_k, mT_3, mR_1, mR_2, mR_3, bI_0, bI_1, bI_n0, bI_n1, Bool.true_eq_false, Bool.false_eq_true, eq_self, i_0, i_1, i_2, i_3, i_4, i_5, i_6, i_7, i_8, i_9, i_10, i_11, i_12, i_13, i_14, i_15, i_16, i_17, i_18, i_19, i_20, i_21, i_22, i_23, i_24, i_25, i_26, i_27, i_28, i_29, i_30, i_31, i_32, i_33, i_34, i_35, i_36, i_37, i_38, i_39, i_40, i_41, i_42, i_43, i_44, i_45, i_48, i_49, i_57, i_59, i_60, i_61, i_62, i_64, i_97, i_110, i_122, i_123, i_125, i_126, i_127, i_160, i_255, i_300, i_400]; done)
    | (rw [qA_s]; refine k14.app (by unfold nAgain; simp (disch := omega) only [↓reduceIte, nI_leT, nI_leF, nI_ltT, nI_ltF, nI_eqT, nI_eqF, xin_T, nI_clampT, nI_add, nI_inc, pk_subT, xb_some, xval, xlet, mI_s, mI_n, mI_k, mI_2, mJ_1, mJ_s, mJ_n, mJ_k, mJ_2, mT_1, mT_2, mT_s, mT_n, mT_k, mT_3, mR_1, mR_2, mR_3, bI_0, bI_1, bI_n0, bI_n1, Bool.true_eq_false, Bool.false_eq_true, eq_self, i_0, i_1, i_2, i_3, i_4, i_5, i_6, i_7, i_8, i_9, i_10, i_11, i_12, i_13, i_14, i_15, i_16, i_17, i_18, i_19, i_20, i_21, i_22, i_23, i_24, i_25, i_26, i_27, i_28, i_29, i_30, i_31, i_32, i_33, i_34, i_35, i_36, i_37, i_38, i_39, i_40, i_41, i_42, i_43, i_44, i_45, i_48, i_49, i_57, i_59, i_60, i_61, i_62, i_64, i_97, i_110, i_122, i_123, i_125, i_126, i_127, i_160, i_255, i_300, i_400]) ?_
       intro c hc
       simp only [c14, List.mem_cons, List.not_mem_nil, or_false] at hc
       rcases hc with rfl <;> (refine ⟨fun i hi => ?_, ?_⟩ <;> (unfold nAgain; simp (disch := omega) only [↓reduceIte, nI_leT, nI_leF, nI_ltT, nI_ltF, nI_eqT, nI_eqF, xin_T, nI_clampT, nI_add, nI_inc, pk_subT, xb_some, xval, xlet, mI_s, mI_n, mI_k, mI_2, mJ_1, mJ_s, mJ_n, mJ_k, mJ_2, mT_1, mT_2, mT_s, mT_n, mT_k, mT_3, mR_1, mR_2, mR_3, bI_0, bI_1, bI_n0, bI_n1, Bool.true_eq_false, Bool.false_eq_true, eq_self, i_0, i_1, i_2, i_3, i_4, i_5, i_6, i_7, i_8, i_9, i_10, i_11, i_12, i_13, i_14, i_15, i_16, i_17, i_18, i_19, i_20, i_21, i_22, i_23, i_24, i_25, i_26, i_27, i_28, i_29, i_30, i_31, i_32, i_33, i_34, i_35, i_36, i_37, i_38, i_39, i_40, i_41, i_42, i_43, i_44, i_45, i_48, i_49, i_57, i_59, i_60, i_61, i_62, i_64, i_97, i_110, i_122, i_123, i_125, i_126, i_127, i_160, i_255, i_300, i_400])))
theorem nAgain_gr {M : xMem} {b : Nat} {n p : Nat} : rF (rGrS b) M (nAgain M b n p) := nAgain_fr.mono (by intro a k; unfold nAgainS rGrS; omega)
theorem nAgain_4 {M : xMem} {b : Nat} {n p : Nat} : (nAgain M b n p).1 b 4 = M.1 b 4 := nAgain_fr.2 _ _ (by unfold nAgainS; omega)
def nDeadM (M : xMem) (b : Nat) (n p : Nat) : xMem := wI (wI M (b + 29) n (nI p)) b 55 (nI (n + 1))
def nDeadMS (b : Nat) (a k : Nat) : Prop := (a = b ∧ k = 55) ∨ a = b + 29
theorem nDeadM_fr {M : xMem} {b : Nat} {n p : Nat} : rF (nDeadMS b) M (nDeadM M b n p) := by
  unfold nDeadM
  exact (((rF.I (by unfold nDeadMS; omega))).trans (rF.I (by unfold nDeadMS; omega)))
theorem nQ_nDeadM {M : xMem} {b tok sc : Nat} {t : List Nat} {r : List qI} {L : qL} {q : Nat} (h : nQ M b t r tok sc L)  : nQ (nDeadM M b (L 15).length (pS (pLex t) q)) b t r tok sc (qA 15 (q, 0, 0, 0, 0) L) := by
  obtain ⟨h1, h2, h3, h4, h5, k0, k5, k1, k2, k14, k15, k16, k6, k18, k19, k4, kx⟩ := h
  have f := nDeadM_fr (M := M) (b := b) (n := (L 15).length) (p := (pS (pLex t) q))
  refine ⟨h1.gr (f.mono (by intro a k; unfold nDeadMS rGrS; omega)), ?_, ?_, h4.to ?_, ?_, k0.fr f ?_ ?_, k5.fr f ?_ ?_, k1.fr f ?_ ?_, k2.fr f ?_ ?_, k14.fr f ?_ ?_, ?_, k16.fr f ?_ ?_, k6.fr f ?_ ?_, k18.fr f ?_ ?_, k19.fr f ?_ ?_, k4.fr f ?_ ?_, ?_⟩
  all_goals first
    | (rw [f.2 _ _ (by unfold nDeadMS; omega)]; assumption)
    | (unfold nDeadMS; omega)
    | (intro a h j; simp [c0, c1, c14, c15, c16, c18, c19, c2, c4, c5, c6] at h; unfold nDeadMS; omega)
    | (intro a j q1 q2 q3; exact f.2 _ _ (by unfold nDeadMS; omega))
    | (intro i hi hn; rw [f.2 _ _ (by unfold nDeadMS; omega)]; exact kx i hi hn)
    | (unfold nDeadM; simp (disch := omega) only [↓reduceIte, nI_leT, nI_leF, nI_ltT, nI_ltF, nI_eqT, nI_eqF, xin_T, nI_clampT, nI_add, nI_inc, pk_subT, xb_some, xval, xlet, mI_s, mI_n, mI_k, mI_2, mJ_1, mJ_s, mJ_n, mJ_k, mJ_2, mT_1, mT_2, mT_s, mT_n, mT_k, mT_3, mR_1, mR_2, mR_3, bI_0, bI_1, bI_n0, bI_n1, Bool.true_eq_false, Bool.false_eq_true, eq_self, i_0, i_1, i_2, i_3, i_4, i_5, i_6, i_7, i_8, i_9, i_10, i_11, i_12, i_13, i_14, i_15, i_16, i_17, i_18, i_19, i_20, i_21, i_22, i_23, i_24, i_25, i_26, i_27, i_28, i_29, i_30, i_31, i_32, i_33, i_34, i_35, i_36, i_37, i_38, i_39, i_40, i_41, i_42, i_43, i_44, i_45, i_48, i_49, i_57, i_59, i_60, i_61, i_62, i_64, i_97, i_110, i_122, i_123, i_125, i_126, i_127, i_160, i_255, i_300, i_400]; done)
    | (rw [qA_s]; refine k15.app (by unfold nDeadM; simp (disch := omega) only [↓reduceIte, nI_leT, nI_leF, nI_ltT, nI_ltF, nI_eqT, nI_eqF, xin_T, nI_clampT, nI_add, nI_inc, pk_subT, xb_some, xval, xlet, mI_s, mI_n, mI_k, mI_2, mJ_1, mJ_s, mJ_n, mJ_k, mJ_2, mT_1, mT_2, mT_s, mT_n, mT_k, mT_3, mR_1, mR_2, mR_3, bI_0, bI_1, bI_n0, bI_n1, Bool.true_eq_false, Bool.false_eq_true, eq_self, i_0, i_1, i_2, i_3, i_4, i_5, i_6, i_7, i_8, i_9, i_10, i_11, i_12, i_13, i_14, i_15, i_16, i_17, i_18, i_19, i_20, i_21, i_22, i_23, i_24, i_25, i_26, i_27, i_28, i_29, i_30, i_31, i_32, i_33, i_34, i_35, i_36, i_37, i_38, i_39, i_40, i_41, i_42, i_43, i_44, i_45, i_48, i_49, i_57, i_59, i_60, i_61, i_62, i_64, i_97, i_110, i_122, i_123, i_125, i_126, i_127, i_160, i_255, i_300, i_400]) ?_
       intro c hc
       simp only [c15, List.mem_cons, List.not_mem_nil, or_false] at hc
       rcases hc with rfl <;> (refine ⟨fun i hi => ?_, ?_⟩ <;> (unfold nDeadM; simp (disch := omega) only [↓reduceIte, nI_leT, nI_leF, nI_ltT, nI_ltF, nI_eqT, nI_eqF, xin_T, nI_clampT, nI_add, nI_inc, pk_subT, xb_some, xval, xlet, mI_s, mI_n, mI_k, mI_2, mJ_1, mJ_s, mJ_n, mJ_k, mJ_2, mT_1, mT_2, mT_s, mT_n, mT_k, mT_3, mR_1, mR_2, mR_3, bI_0, bI_1, bI_n0, bI_n1, Bool.true_eq_false, Bool.false_eq_true, eq_self, i_0, i_1, i_2, i_3, i_4, i_5, i_6, i_7, i_8, i_9, i_10, i_11, i_12, i_13, i_14, i_15, i_16, i_17, i_18, i_19, i_20, i_21, i_22, i_23, i_24, i_25, i_26, i_27, i_28, i_29, i_30, i_31, i_32, i_33, i_34, i_35, i_36, i_37, i_38, i_39, i_40, i_41, i_42, i_43, i_44, i_45, i_48, i_49, i_57, i_59, i_60, i_61, i_62, i_64, i_97, i_110, i_122, i_123, i_125, i_126, i_127, i_160, i_255, i_300, i_400])))
theorem nDeadM_gr {M : xMem} {b : Nat} {n p : Nat} : rF (rGrS b) M (nDeadM M b n p) := nDeadM_fr.mono (by intro a k; unfold nDeadMS rGrS; omega)
theorem nDeadM_4 {M : xMem} {b : Nat} {n p : Nat} : (nDeadM M b n p).1 b 4 = M.1 b 4 := nDeadM_fr.2 _ _ (by unfold nDeadMS; omega)
def nLike (M : xMem) (b : Nat) (n p : Nat) : xMem := wI (wI M (b + 30) n (nI p)) b 56 (nI (n + 1))
def nLikeS (b : Nat) (a k : Nat) : Prop := (a = b ∧ k = 56) ∨ a = b + 30
theorem nLike_fr {M : xMem} {b : Nat} {n p : Nat} : rF (nLikeS b) M (nLike M b n p) := by
  unfold nLike
  exact (((rF.I (by unfold nLikeS; omega))).trans (rF.I (by unfold nLikeS; omega)))
theorem nQ_nLike {M : xMem} {b tok sc : Nat} {t : List Nat} {r : List qI} {L : qL} {q : Nat} (h : nQ M b t r tok sc L)  : nQ (nLike M b (L 16).length (pS (pLex t) q)) b t r tok sc (qA 16 (q, 0, 0, 0, 0) L) := by
  obtain ⟨h1, h2, h3, h4, h5, k0, k5, k1, k2, k14, k15, k16, k6, k18, k19, k4, kx⟩ := h
  have f := nLike_fr (M := M) (b := b) (n := (L 16).length) (p := (pS (pLex t) q))
  refine ⟨h1.gr (f.mono (by intro a k; unfold nLikeS rGrS; omega)), ?_, ?_, h4.to ?_, ?_, k0.fr f ?_ ?_, k5.fr f ?_ ?_, k1.fr f ?_ ?_, k2.fr f ?_ ?_, k14.fr f ?_ ?_, k15.fr f ?_ ?_, ?_, k6.fr f ?_ ?_, k18.fr f ?_ ?_, k19.fr f ?_ ?_, k4.fr f ?_ ?_, ?_⟩
  all_goals first
    | (rw [f.2 _ _ (by unfold nLikeS; omega)]; assumption)
    | (unfold nLikeS; omega)
    | (intro a h j; simp [c0, c1, c14, c15, c16, c18, c19, c2, c4, c5, c6] at h; unfold nLikeS; omega)
    | (intro a j q1 q2 q3; exact f.2 _ _ (by unfold nLikeS; omega))
    | (intro i hi hn; rw [f.2 _ _ (by unfold nLikeS; omega)]; exact kx i hi hn)
    | (unfold nLike; simp (disch := omega) only [↓reduceIte, nI_leT, nI_leF, nI_ltT, nI_ltF, nI_eqT, nI_eqF, xin_T, nI_clampT, nI_add, nI_inc, pk_subT, xb_some, xval, xlet, mI_s, mI_n, mI_k, mI_2, mJ_1, mJ_s, mJ_n, mJ_k, mJ_2, mT_1, mT_2, mT_s, mT_n, mT_k, mT_3, mR_1, mR_2, mR_3, bI_0, bI_1, bI_n0, bI_n1, Bool.true_eq_false, Bool.false_eq_true, eq_self, i_0, i_1, i_2, i_3, i_4, i_5, i_6, i_7, i_8, i_9, i_10, i_11, i_12, i_13, i_14, i_15, i_16, i_17, i_18, i_19, i_20, i_21, i_22, i_23, i_24, i_25, i_26, i_27, i_28, i_29, i_30, i_31, i_32, i_33, i_34, i_35, i_36, i_37, i_38, i_39, i_40, i_41, i_42, i_43, i_44, i_45, i_48, i_49, i_57, i_59, i_60, i_61, i_62, i_64, i_97, i_110, i_122, i_123, i_125, i_126, i_127, i_160, i_255, i_300, i_400]; done)
    | (rw [qA_s]; refine k16.app (by unfold nLike; simp (disch := omega) only [↓reduceIte, nI_leT, nI_leF, nI_ltT, nI_ltF, nI_eqT, nI_eqF, xin_T, nI_clampT, nI_add, nI_inc, pk_subT, xb_some, xval, xlet, mI_s, mI_n, mI_k, mI_2, mJ_1, mJ_s, mJ_n, mJ_k, mJ_2, mT_1, mT_2, mT_s, mT_n, mT_k, mT_3, mR_1, mR_2, mR_3, bI_0, bI_1, bI_n0, bI_n1, Bool.true_eq_false, Bool.false_eq_true, eq_self, i_0, i_1, i_2, i_3, i_4, i_5, i_6, i_7, i_8, i_9, i_10, i_11, i_12, i_13, i_14, i_15, i_16, i_17, i_18, i_19, i_20, i_21, i_22, i_23, i_24, i_25, i_26, i_27, i_28, i_29, i_30, i_31, i_32, i_33, i_34, i_35, i_36, i_37, i_38, i_39, i_40, i_41, i_42, i_43, i_44, i_45, i_48, i_49, i_57, i_59, i_60, i_61, i_62, i_64, i_97, i_110, i_122, i_123, i_125, i_126, i_127, i_160, i_255, i_300, i_400]) ?_
       intro c hc
       simp only [c16, List.mem_cons, List.not_mem_nil, or_false] at hc
       rcases hc with rfl <;> (refine ⟨fun i hi => ?_, ?_⟩ <;> (unfold nLike; simp (disch := omega) only [↓reduceIte, nI_leT, nI_leF, nI_ltT, nI_ltF, nI_eqT, nI_eqF, xin_T, nI_clampT, nI_add, nI_inc, pk_subT, xb_some, xval, xlet, mI_s, mI_n, mI_k, mI_2, mJ_1, mJ_s, mJ_n, mJ_k, mJ_2, mT_1, mT_2, mT_s, mT_n, mT_k, mT_3, mR_1, mR_2, mR_3, bI_0, bI_1, bI_n0, bI_n1, Bool.true_eq_false, Bool.false_eq_true, eq_self, i_0, i_1, i_2, i_3, i_4, i_5, i_6, i_7, i_8, i_9, i_10, i_11, i_12, i_13, i_14, i_15, i_16, i_17, i_18, i_19, i_20, i_21, i_22, i_23, i_24, i_25, i_26, i_27, i_28, i_29, i_30, i_31, i_32, i_33, i_34, i_35, i_36, i_37, i_38, i_39, i_40, i_41, i_42, i_43, i_44, i_45, i_48, i_49, i_57, i_59, i_60, i_61, i_62, i_64, i_97, i_110, i_122, i_123, i_125, i_126, i_127, i_160, i_255, i_300, i_400])))
theorem nLike_gr {M : xMem} {b : Nat} {n p : Nat} : rF (rGrS b) M (nLike M b n p) := nLike_fr.mono (by intro a k; unfold nLikeS rGrS; omega)
theorem nLike_4 {M : xMem} {b : Nat} {n p : Nat} : (nLike M b n p).1 b 4 = M.1 b 4 := nLike_fr.2 _ _ (by unfold nLikeS; omega)
def nSpare (M : xMem) (b : Nat) (n p : Nat) : xMem := wI (wI M (b + 35) n (nI p)) b 59 (nI (n + 1))
def nSpareS (b : Nat) (a k : Nat) : Prop := (a = b ∧ k = 59) ∨ a = b + 35
theorem nSpare_fr {M : xMem} {b : Nat} {n p : Nat} : rF (nSpareS b) M (nSpare M b n p) := by
  unfold nSpare
  exact (((rF.I (by unfold nSpareS; omega))).trans (rF.I (by unfold nSpareS; omega)))
theorem nQ_nSpare {M : xMem} {b tok sc : Nat} {t : List Nat} {r : List qI} {L : qL} {q : Nat} (h : nQ M b t r tok sc L)  : nQ (nSpare M b (L 19).length (pS (pLex t) q)) b t r tok sc (qA 19 (q, 0, 0, 0, 0) L) := by
  obtain ⟨h1, h2, h3, h4, h5, k0, k5, k1, k2, k14, k15, k16, k6, k18, k19, k4, kx⟩ := h
  have f := nSpare_fr (M := M) (b := b) (n := (L 19).length) (p := (pS (pLex t) q))
  refine ⟨h1.gr (f.mono (by intro a k; unfold nSpareS rGrS; omega)), ?_, ?_, h4.to ?_, ?_, k0.fr f ?_ ?_, k5.fr f ?_ ?_, k1.fr f ?_ ?_, k2.fr f ?_ ?_, k14.fr f ?_ ?_, k15.fr f ?_ ?_, k16.fr f ?_ ?_, k6.fr f ?_ ?_, k18.fr f ?_ ?_, ?_, k4.fr f ?_ ?_, ?_⟩
  all_goals first
    | (rw [f.2 _ _ (by unfold nSpareS; omega)]; assumption)
    | (unfold nSpareS; omega)
    | (intro a h j; simp [c0, c1, c14, c15, c16, c18, c19, c2, c4, c5, c6] at h; unfold nSpareS; omega)
    | (intro a j q1 q2 q3; exact f.2 _ _ (by unfold nSpareS; omega))
    | (intro i hi hn; rw [f.2 _ _ (by unfold nSpareS; omega)]; exact kx i hi hn)
    | (unfold nSpare; simp (disch := omega) only [↓reduceIte, nI_leT, nI_leF, nI_ltT, nI_ltF, nI_eqT, nI_eqF, xin_T, nI_clampT, nI_add, nI_inc, pk_subT, xb_some, xval, xlet, mI_s, mI_n, mI_k, mI_2, mJ_1, mJ_s, mJ_n, mJ_k, mJ_2, mT_1, mT_2, mT_s, mT_n, mT_k, mT_3, mR_1, mR_2, mR_3, bI_0, bI_1, bI_n0, bI_n1, Bool.true_eq_false, Bool.false_eq_true, eq_self, i_0, i_1, i_2, i_3, i_4, i_5, i_6, i_7, i_8, i_9, i_10, i_11, i_12, i_13, i_14, i_15, i_16, i_17, i_18, i_19, i_20, i_21, i_22, i_23, i_24, i_25, i_26, i_27, i_28, i_29, i_30, i_31, i_32, i_33, i_34, i_35, i_36, i_37, i_38, i_39, i_40, i_41, i_42, i_43, i_44, i_45, i_48, i_49, i_57, i_59, i_60, i_61, i_62, i_64, i_97, i_110, i_122, i_123, i_125, i_126, i_127, i_160, i_255, i_300, i_400]; done)
    | (rw [qA_s]; refine k19.app (by unfold nSpare; simp (disch := omega) only [↓reduceIte, nI_leT, nI_leF, nI_ltT, nI_ltF, nI_eqT, nI_eqF, xin_T, nI_clampT, nI_add, nI_inc, pk_subT, xb_some, xval, xlet, mI_s, mI_n, mI_k, mI_2, mJ_1, mJ_s, mJ_n, mJ_k, mJ_2, mT_1, mT_2, mT_s, mT_n, mT_k, mT_3, mR_1, mR_2, mR_3, bI_0, bI_1, bI_n0, bI_n1, Bool.true_eq_false, Bool.false_eq_true, eq_self, i_0, i_1, i_2, i_3, i_4, i_5, i_6, i_7, i_8, i_9, i_10, i_11, i_12, i_13, i_14, i_15, i_16, i_17, i_18, i_19, i_20, i_21, i_22, i_23, i_24, i_25, i_26, i_27, i_28, i_29, i_30, i_31, i_32, i_33, i_34, i_35, i_36, i_37, i_38, i_39, i_40, i_41, i_42, i_43, i_44, i_45, i_48, i_49, i_57, i_59, i_60, i_61, i_62, i_64, i_97, i_110, i_122, i_123, i_125, i_126, i_127, i_160, i_255, i_300, i_400]) ?_
       intro c hc
       simp only [c19, List.mem_cons, List.not_mem_nil, or_false] at hc
       rcases hc with rfl <;> (refine ⟨fun i hi => ?_, ?_⟩ <;> (unfold nSpare; simp (disch := omega) only [↓reduceIte, nI_leT, nI_leF, nI_ltT, nI_ltF, nI_eqT, nI_eqF, xin_T, nI_clampT, nI_add, nI_inc, pk_subT, xb_some, xval, xlet, mI_s, mI_n, mI_k, mI_2, mJ_1, mJ_s, mJ_n, mJ_k, mJ_2, mT_1, mT_2, mT_s, mT_n, mT_k, mT_3, mR_1, mR_2, mR_3, bI_0, bI_1, bI_n0, bI_n1, Bool.true_eq_false, Bool.false_eq_true, eq_self, i_0, i_1, i_2, i_3, i_4, i_5, i_6, i_7, i_8, i_9, i_10, i_11, i_12, i_13, i_14, i_15, i_16, i_17, i_18, i_19, i_20, i_21, i_22, i_23, i_24, i_25, i_26, i_27, i_28, i_29, i_30, i_31, i_32, i_33, i_34, i_35, i_36, i_37, i_38, i_39, i_40, i_41, i_42, i_43, i_44, i_45, i_48, i_49, i_57, i_59, i_60, i_61, i_62, i_64, i_97, i_110, i_122, i_123, i_125, i_126, i_127, i_160, i_255, i_300, i_400])))
theorem nSpare_gr {M : xMem} {b : Nat} {n p : Nat} : rF (rGrS b) M (nSpare M b n p) := nSpare_fr.mono (by intro a k; unfold nSpareS rGrS; omega)
theorem nSpare_4 {M : xMem} {b : Nat} {n p : Nat} : (nSpare M b n p).1 b 4 = M.1 b 4 := nSpare_fr.2 _ _ (by unfold nSpareS; omega)
def nEmp (M : xMem) (b : Nat) (n p e g : Nat) : xMem := wI (wI (wI (wI M (b + 33) n (nI p)) (b + 34) n (nI e)) (b + 39) n (nI g)) b 58 (nI (n + 1))
def nEmpS (b : Nat) (a k : Nat) : Prop := (a = b ∧ k = 58) ∨ a = b + 33 ∨ a = b + 34 ∨ a = b + 39
theorem nEmp_fr {M : xMem} {b : Nat} {n p e g : Nat} : rF (nEmpS b) M (nEmp M b n p e g) := by
  unfold nEmp
  exact (((((((rF.I (by unfold nEmpS; omega))).trans (rF.I (by unfold nEmpS; omega)))).trans (rF.I (by unfold nEmpS; omega)))).trans (rF.I (by unfold nEmpS; omega)))
theorem nQ_nEmp {M : xMem} {b tok sc : Nat} {t : List Nat} {r : List qI} {L : qL} {q g : Nat} (h : nQ M b t r tok sc L)  : nQ (nEmp M b (L 18).length (pS (pLex t) q) (pE (pLex t) (q + 1)) g) b t r tok sc (qA 18 (q, g, 0, 0, 0) L) := by
  obtain ⟨h1, h2, h3, h4, h5, k0, k5, k1, k2, k14, k15, k16, k6, k18, k19, k4, kx⟩ := h
  have f := nEmp_fr (M := M) (b := b) (n := (L 18).length) (p := (pS (pLex t) q)) (e := (pE (pLex t) (q + 1))) (g := g)
  refine ⟨h1.gr (f.mono (by intro a k; unfold nEmpS rGrS; omega)), ?_, ?_, h4.to ?_, ?_, k0.fr f ?_ ?_, k5.fr f ?_ ?_, k1.fr f ?_ ?_, k2.fr f ?_ ?_, k14.fr f ?_ ?_, k15.fr f ?_ ?_, k16.fr f ?_ ?_, k6.fr f ?_ ?_, ?_, k19.fr f ?_ ?_, k4.fr f ?_ ?_, ?_⟩
  all_goals first
    | (rw [f.2 _ _ (by unfold nEmpS; omega)]; assumption)
    | (unfold nEmpS; omega)
    | (intro a h j; simp [c0, c1, c14, c15, c16, c18, c19, c2, c4, c5, c6] at h; unfold nEmpS; omega)
    | (intro a j q1 q2 q3; exact f.2 _ _ (by unfold nEmpS; omega))
    | (intro i hi hn; rw [f.2 _ _ (by unfold nEmpS; omega)]; exact kx i hi hn)
    | (unfold nEmp; simp (disch := omega) only [↓reduceIte, nI_leT, nI_leF, nI_ltT, nI_ltF, nI_eqT, nI_eqF, xin_T, nI_clampT, nI_add, nI_inc, pk_subT, xb_some, xval, xlet, mI_s, mI_n, mI_k, mI_2, mJ_1, mJ_s, mJ_n, mJ_k, mJ_2, mT_1, mT_2, mT_s, mT_n, mT_k, mT_3, mR_1, mR_2, mR_3, bI_0, bI_1, bI_n0, bI_n1, Bool.true_eq_false, Bool.false_eq_true, eq_self, i_0, i_1, i_2, i_3, i_4, i_5, i_6, i_7, i_8, i_9, i_10, i_11, i_12, i_13, i_14, i_15, i_16, i_17, i_18, i_19, i_20, i_21, i_22, i_23, i_24, i_25, i_26, i_27, i_28, i_29, i_30, i_31, i_32, i_33, i_34, i_35, i_36, i_37, i_38, i_39, i_40, i_41, i_42, i_43, i_44, i_45, i_48, i_49, i_57, i_59, i_60, i_61, i_62, i_64, i_97, i_110, i_122, i_123, i_125, i_126, i_127, i_160, i_255, i_300, i_400]; done)
    | (rw [qA_s]; refine k18.app (by unfold nEmp; simp (disch := omega) only [↓reduceIte, nI_leT, nI_leF, nI_ltT, nI_ltF, nI_eqT, nI_eqF, xin_T, nI_clampT, nI_add, nI_inc, pk_subT, xb_some, xval, xlet, mI_s, mI_n, mI_k, mI_2, mJ_1, mJ_s, mJ_n, mJ_k, mJ_2, mT_1, mT_2, mT_s, mT_n, mT_k, mT_3, mR_1, mR_2, mR_3, bI_0, bI_1, bI_n0, bI_n1, Bool.true_eq_false, Bool.false_eq_true, eq_self, i_0, i_1, i_2, i_3, i_4, i_5, i_6, i_7, i_8, i_9, i_10, i_11, i_12, i_13, i_14, i_15, i_16, i_17, i_18, i_19, i_20, i_21, i_22, i_23, i_24, i_25, i_26, i_27, i_28, i_29, i_30, i_31, i_32, i_33, i_34, i_35, i_36, i_37, i_38, i_39, i_40, i_41, i_42, i_43, i_44, i_45, i_48, i_49, i_57, i_59, i_60, i_61, i_62, i_64, i_97, i_110, i_122, i_123, i_125, i_126, i_127, i_160, i_255, i_300, i_400]) ?_
       intro c hc
       simp only [c18, List.mem_cons, List.not_mem_nil, or_false] at hc
       rcases hc with rfl | rfl | rfl <;> (refine ⟨fun i hi => ?_, ?_⟩ <;> (unfold nEmp; simp (disch := omega) only [↓reduceIte, nI_leT, nI_leF, nI_ltT, nI_ltF, nI_eqT, nI_eqF, xin_T, nI_clampT, nI_add, nI_inc, pk_subT, xb_some, xval, xlet, mI_s, mI_n, mI_k, mI_2, mJ_1, mJ_s, mJ_n, mJ_k, mJ_2, mT_1, mT_2, mT_s, mT_n, mT_k, mT_3, mR_1, mR_2, mR_3, bI_0, bI_1, bI_n0, bI_n1, Bool.true_eq_false, Bool.false_eq_true, eq_self, i_0, i_1, i_2, i_3, i_4, i_5, i_6, i_7, i_8, i_9, i_10, i_11, i_12, i_13, i_14, i_15, i_16, i_17, i_18, i_19, i_20, i_21, i_22, i_23, i_24, i_25, i_26, i_27, i_28, i_29, i_30, i_31, i_32, i_33, i_34, i_35, i_36, i_37, i_38, i_39, i_40, i_41, i_42, i_43, i_44, i_45, i_48, i_49, i_57, i_59, i_60, i_61, i_62, i_64, i_97, i_110, i_122, i_123, i_125, i_126, i_127, i_160, i_255, i_300, i_400])))
theorem nEmp_gr {M : xMem} {b : Nat} {n p e g : Nat} : rF (rGrS b) M (nEmp M b n p e g) := nEmp_fr.mono (by intro a k; unfold nEmpS rGrS; omega)
theorem nEmp_4 {M : xMem} {b : Nat} {n p e g : Nat} : (nEmp M b n p e g).1 b 4 = M.1 b 4 := nEmp_fr.2 _ _ (by unfold nEmpS; omega)
def nFix (M : xMem) (b : Nat) (n p x : Nat) : xMem := wI (wI (wI M (b + 31) n (nI p)) (b + 32) n (nI x)) b 57 (nI (n + 1))
def nFixS (b : Nat) (a k : Nat) : Prop := (a = b ∧ k = 57) ∨ a = b + 31 ∨ a = b + 32
theorem nFix_fr {M : xMem} {b : Nat} {n p x : Nat} : rF (nFixS b) M (nFix M b n p x) := by
  unfold nFix
  exact (((((rF.I (by unfold nFixS; omega))).trans (rF.I (by unfold nFixS; omega)))).trans (rF.I (by unfold nFixS; omega)))
theorem nQ_nFix {M : xMem} {b tok sc : Nat} {t : List Nat} {r : List qI} {L : qL} {q x : Nat} (h : nQ M b t r tok sc L)  : nQ (nFix M b (L 6).length (pS (pLex t) q) x) b t r tok sc (qA 6 (q, x, 0, 0, 0) L) := by
  obtain ⟨h1, h2, h3, h4, h5, k0, k5, k1, k2, k14, k15, k16, k6, k18, k19, k4, kx⟩ := h
  have f := nFix_fr (M := M) (b := b) (n := (L 6).length) (p := (pS (pLex t) q)) (x := x)
  refine ⟨h1.gr (f.mono (by intro a k; unfold nFixS rGrS; omega)), ?_, ?_, h4.to ?_, ?_, k0.fr f ?_ ?_, k5.fr f ?_ ?_, k1.fr f ?_ ?_, k2.fr f ?_ ?_, k14.fr f ?_ ?_, k15.fr f ?_ ?_, k16.fr f ?_ ?_, ?_, k18.fr f ?_ ?_, k19.fr f ?_ ?_, k4.fr f ?_ ?_, ?_⟩
  all_goals first
    | (rw [f.2 _ _ (by unfold nFixS; omega)]; assumption)
    | (unfold nFixS; omega)
    | (intro a h j; simp [c0, c1, c14, c15, c16, c18, c19, c2, c4, c5, c6] at h; unfold nFixS; omega)
    | (intro a j q1 q2 q3; exact f.2 _ _ (by unfold nFixS; omega))
    | (intro i hi hn; rw [f.2 _ _ (by unfold nFixS; omega)]; exact kx i hi hn)
    | (unfold nFix; simp (disch := omega) only [↓reduceIte, nI_leT, nI_leF, nI_ltT, nI_ltF, nI_eqT, nI_eqF, xin_T, nI_clampT, nI_add, nI_inc, pk_subT, xb_some, xval, xlet, mI_s, mI_n, mI_k, mI_2, mJ_1, mJ_s, mJ_n, mJ_k, mJ_2, mT_1, mT_2, mT_s, mT_n, mT_k, mT_3, mR_1, mR_2, mR_3, bI_0, bI_1, bI_n0, bI_n1, Bool.true_eq_false, Bool.false_eq_true, eq_self, i_0, i_1, i_2, i_3, i_4, i_5, i_6, i_7, i_8, i_9, i_10, i_11, i_12, i_13, i_14, i_15, i_16, i_17, i_18, i_19, i_20, i_21, i_22, i_23, i_24, i_25, i_26, i_27, i_28, i_29, i_30, i_31, i_32, i_33, i_34, i_35, i_36, i_37, i_38, i_39, i_40, i_41, i_42, i_43, i_44, i_45, i_48, i_49, i_57, i_59, i_60, i_61, i_62, i_64, i_97, i_110, i_122, i_123, i_125, i_126, i_127, i_160, i_255, i_300, i_400]; done)
    | (rw [qA_s]; refine k6.app (by unfold nFix; simp (disch := omega) only [↓reduceIte, nI_leT, nI_leF, nI_ltT, nI_ltF, nI_eqT, nI_eqF, xin_T, nI_clampT, nI_add, nI_inc, pk_subT, xb_some, xval, xlet, mI_s, mI_n, mI_k, mI_2, mJ_1, mJ_s, mJ_n, mJ_k, mJ_2, mT_1, mT_2, mT_s, mT_n, mT_k, mT_3, mR_1, mR_2, mR_3, bI_0, bI_1, bI_n0, bI_n1, Bool.true_eq_false, Bool.false_eq_true, eq_self, i_0, i_1, i_2, i_3, i_4, i_5, i_6, i_7, i_8, i_9, i_10, i_11, i_12, i_13, i_14, i_15, i_16, i_17, i_18, i_19, i_20, i_21, i_22, i_23, i_24, i_25, i_26, i_27, i_28, i_29, i_30, i_31, i_32, i_33, i_34, i_35, i_36, i_37, i_38, i_39, i_40, i_41, i_42, i_43, i_44, i_45, i_48, i_49, i_57, i_59, i_60, i_61, i_62, i_64, i_97, i_110, i_122, i_123, i_125, i_126, i_127, i_160, i_255, i_300, i_400]) ?_
       intro c hc
       simp only [c6, List.mem_cons, List.not_mem_nil, or_false] at hc
       rcases hc with rfl | rfl <;> (refine ⟨fun i hi => ?_, ?_⟩ <;> (unfold nFix; simp (disch := omega) only [↓reduceIte, nI_leT, nI_leF, nI_ltT, nI_ltF, nI_eqT, nI_eqF, xin_T, nI_clampT, nI_add, nI_inc, pk_subT, xb_some, xval, xlet, mI_s, mI_n, mI_k, mI_2, mJ_1, mJ_s, mJ_n, mJ_k, mJ_2, mT_1, mT_2, mT_s, mT_n, mT_k, mT_3, mR_1, mR_2, mR_3, bI_0, bI_1, bI_n0, bI_n1, Bool.true_eq_false, Bool.false_eq_true, eq_self, i_0, i_1, i_2, i_3, i_4, i_5, i_6, i_7, i_8, i_9, i_10, i_11, i_12, i_13, i_14, i_15, i_16, i_17, i_18, i_19, i_20, i_21, i_22, i_23, i_24, i_25, i_26, i_27, i_28, i_29, i_30, i_31, i_32, i_33, i_34, i_35, i_36, i_37, i_38, i_39, i_40, i_41, i_42, i_43, i_44, i_45, i_48, i_49, i_57, i_59, i_60, i_61, i_62, i_64, i_97, i_110, i_122, i_123, i_125, i_126, i_127, i_160, i_255, i_300, i_400])))
theorem nFix_gr {M : xMem} {b : Nat} {n p x : Nat} : rF (rGrS b) M (nFix M b n p x) := nFix_fr.mono (by intro a k; unfold nFixS rGrS; omega)
theorem nFix_4 {M : xMem} {b : Nat} {n p x : Nat} : (nFix M b n p x).1 b 4 = M.1 b 4 := nFix_fr.2 _ _ (by unfold nFixS; omega)
def nOpen (M : xMem) (b : Nat) (n s g : Nat) : xMem := wI (wI (wI (wI M (b + 15) n (nI s)) (b + 17) n (nI g)) b 28 (nI n)) b 27 (nI (n + 1))
def nOpenS (b : Nat) (a k : Nat) : Prop := (a = b ∧ k = 27) ∨ (a = b ∧ k = 28) ∨ a = b + 15 ∨ a = b + 17
theorem nOpen_fr {M : xMem} {b : Nat} {n s g : Nat} : rF (nOpenS b) M (nOpen M b n s g) := by
  unfold nOpen
  exact (((((((rF.I (by unfold nOpenS; omega))).trans (rF.I (by unfold nOpenS; omega)))).trans (rF.I (by unfold nOpenS; omega)))).trans (rF.I (by unfold nOpenS; omega)))
theorem nQ_nOpen {M : xMem} {b tok sc : Nat} {t : List Nat} {r : List qI} {L : qL} {g hm lv q : Nat} (h : nQ M b t r tok sc L)  : nQ (nOpen M b (L 0).length sc g) b t r tok (L 0).length (qA 0 (sc, g, hm, lv + 1, q) L) := by
  obtain ⟨h1, h2, h3, h4, h5, k0, k5, k1, k2, k14, k15, k16, k6, k18, k19, k4, kx⟩ := h
  have f := nOpen_fr (M := M) (b := b) (n := (L 0).length) (s := sc) (g := g)
  refine ⟨h1.gr (f.mono (by intro a k; unfold nOpenS rGrS; omega)), ?_, ?_, h4.to ?_, ?_, ?_, k5.fr f ?_ ?_, k1.fr f ?_ ?_, k2.fr f ?_ ?_, k14.fr f ?_ ?_, k15.fr f ?_ ?_, k16.fr f ?_ ?_, k6.fr f ?_ ?_, k18.fr f ?_ ?_, k19.fr f ?_ ?_, k4.fr f ?_ ?_, ?_⟩
  all_goals first
    | (rw [f.2 _ _ (by unfold nOpenS; omega)]; assumption)
    | (unfold nOpenS; omega)
    | (intro a h j; simp [c0, c1, c14, c15, c16, c18, c19, c2, c4, c5, c6] at h; unfold nOpenS; omega)
    | (intro a j q1 q2 q3; exact f.2 _ _ (by unfold nOpenS; omega))
    | (intro i hi hn; rw [f.2 _ _ (by unfold nOpenS; omega)]; exact kx i hi hn)
    | (unfold nOpen; simp (disch := omega) only [↓reduceIte, nI_leT, nI_leF, nI_ltT, nI_ltF, nI_eqT, nI_eqF, xin_T, nI_clampT, nI_add, nI_inc, pk_subT, xb_some, xval, xlet, mI_s, mI_n, mI_k, mI_2, mJ_1, mJ_s, mJ_n, mJ_k, mJ_2, mT_1, mT_2, mT_s, mT_n, mT_k, mT_3, mR_1, mR_2, mR_3, bI_0, bI_1, bI_n0, bI_n1, Bool.true_eq_false, Bool.false_eq_true, eq_self, i_0, i_1, i_2, i_3, i_4, i_5, i_6, i_7, i_8, i_9, i_10, i_11, i_12, i_13, i_14, i_15, i_16, i_17, i_18, i_19, i_20, i_21, i_22, i_23, i_24, i_25, i_26, i_27, i_28, i_29, i_30, i_31, i_32, i_33, i_34, i_35, i_36, i_37, i_38, i_39, i_40, i_41, i_42, i_43, i_44, i_45, i_48, i_49, i_57, i_59, i_60, i_61, i_62, i_64, i_97, i_110, i_122, i_123, i_125, i_126, i_127, i_160, i_255, i_300, i_400, Nat.add_one_ne_zero]; done)
    | (rw [qA_s]; refine k0.app (by unfold nOpen; simp (disch := omega) only [↓reduceIte, nI_leT, nI_leF, nI_ltT, nI_ltF, nI_eqT, nI_eqF, xin_T, nI_clampT, nI_add, nI_inc, pk_subT, xb_some, xval, xlet, mI_s, mI_n, mI_k, mI_2, mJ_1, mJ_s, mJ_n, mJ_k, mJ_2, mT_1, mT_2, mT_s, mT_n, mT_k, mT_3, mR_1, mR_2, mR_3, bI_0, bI_1, bI_n0, bI_n1, Bool.true_eq_false, Bool.false_eq_true, eq_self, i_0, i_1, i_2, i_3, i_4, i_5, i_6, i_7, i_8, i_9, i_10, i_11, i_12, i_13, i_14, i_15, i_16, i_17, i_18, i_19, i_20, i_21, i_22, i_23, i_24, i_25, i_26, i_27, i_28, i_29, i_30, i_31, i_32, i_33, i_34, i_35, i_36, i_37, i_38, i_39, i_40, i_41, i_42, i_43, i_44, i_45, i_48, i_49, i_57, i_59, i_60, i_61, i_62, i_64, i_97, i_110, i_122, i_123, i_125, i_126, i_127, i_160, i_255, i_300, i_400, Nat.add_one_ne_zero]) ?_
       intro c hc
       simp only [c0, List.mem_cons, List.not_mem_nil, or_false] at hc
       rcases hc with rfl | rfl <;> (refine ⟨fun i hi => ?_, ?_⟩ <;> (unfold nOpen; simp (disch := omega) only [↓reduceIte, nI_leT, nI_leF, nI_ltT, nI_ltF, nI_eqT, nI_eqF, xin_T, nI_clampT, nI_add, nI_inc, pk_subT, xb_some, xval, xlet, mI_s, mI_n, mI_k, mI_2, mJ_1, mJ_s, mJ_n, mJ_k, mJ_2, mT_1, mT_2, mT_s, mT_n, mT_k, mT_3, mR_1, mR_2, mR_3, bI_0, bI_1, bI_n0, bI_n1, Bool.true_eq_false, Bool.false_eq_true, eq_self, i_0, i_1, i_2, i_3, i_4, i_5, i_6, i_7, i_8, i_9, i_10, i_11, i_12, i_13, i_14, i_15, i_16, i_17, i_18, i_19, i_20, i_21, i_22, i_23, i_24, i_25, i_26, i_27, i_28, i_29, i_30, i_31, i_32, i_33, i_34, i_35, i_36, i_37, i_38, i_39, i_40, i_41, i_42, i_43, i_44, i_45, i_48, i_49, i_57, i_59, i_60, i_61, i_62, i_64, i_97, i_110, i_122, i_123, i_125, i_126, i_127, i_160, i_255, i_300, i_400, Nat.add_one_ne_zero])))
theorem nOpen_gr {M : xMem} {b : Nat} {n s g : Nat} : rF (rGrS b) M (nOpen M b n s g) := nOpen_fr.mono (by intro a k; unfold nOpenS rGrS; omega)
theorem nOpen_4 {M : xMem} {b : Nat} {n s g : Nat} : (nOpen M b n s g).1 b 4 = M.1 b 4 := nOpen_fr.2 _ _ (by unfold nOpenS; omega)
def nBack (M : xMem) (b : Nat) (n g : Nat) : xMem := wI M (b + 16) n (nI g)
def nBackS (b : Nat) (a k : Nat) : Prop := a = b + 16
theorem nBack_fr {M : xMem} {b : Nat} {n g : Nat} : rF (nBackS b) M (nBack M b n g) := by
  unfold nBack
  exact (rF.I (by unfold nBackS; omega))
theorem nQ_nBack {M : xMem} {b tok sc : Nat} {t : List Nat} {r : List qI} {L : qL} {n g : Nat} (h : nQ M b t r tok sc L)  : nQ (nBack M b n g) b t r tok sc (qM 5 n (fun e => (g, e.2)) L) := by
  obtain ⟨h1, h2, h3, h4, h5, k0, k5, k1, k2, k14, k15, k16, k6, k18, k19, k4, kx⟩ := h
  have f := nBack_fr (M := M) (b := b) (n := n) (g := g)
  refine ⟨h1.gr (f.mono (by intro a k; unfold nBackS rGrS; omega)), ?_, ?_, h4.to ?_, ?_, k0.fr f ?_ ?_, ?_, k1.fr f ?_ ?_, k2.fr f ?_ ?_, k14.fr f ?_ ?_, k15.fr f ?_ ?_, k16.fr f ?_ ?_, k6.fr f ?_ ?_, k18.fr f ?_ ?_, k19.fr f ?_ ?_, k4.fr f ?_ ?_, ?_⟩
  all_goals first
    | (rw [f.2 _ _ (by unfold nBackS; omega)]; assumption)
    | (unfold nBackS; omega)
    | (intro a h j; simp [c0, c1, c14, c15, c16, c18, c19, c2, c4, c5, c6] at h; unfold nBackS; omega)
    | (intro a j q1 q2 q3; exact f.2 _ _ (by unfold nBackS; omega))
    | (intro i hi hn; rw [f.2 _ _ (by unfold nBackS; omega)]; exact kx i hi hn)
    | (unfold nBack; simp (disch := omega) only [↓reduceIte, nI_leT, nI_leF, nI_ltT, nI_ltF, nI_eqT, nI_eqF, xin_T, nI_clampT, nI_add, nI_inc, pk_subT, xb_some, xval, xlet, mI_s, mI_n, mI_k, mI_2, mJ_1, mJ_s, mJ_n, mJ_k, mJ_2, mT_1, mT_2, mT_s, mT_n, mT_k, mT_3, mR_1, mR_2, mR_3, bI_0, bI_1, bI_n0, bI_n1, Bool.true_eq_false, Bool.false_eq_true, eq_self, i_0, i_1, i_2, i_3, i_4, i_5, i_6, i_7, i_8, i_9, i_10, i_11, i_12, i_13, i_14, i_15, i_16, i_17, i_18, i_19, i_20, i_21, i_22, i_23, i_24, i_25, i_26, i_27, i_28, i_29, i_30, i_31, i_32, i_33, i_34, i_35, i_36, i_37, i_38, i_39, i_40, i_41, i_42, i_43, i_44, i_45, i_48, i_49, i_57, i_59, i_60, i_61, i_62, i_64, i_97, i_110, i_122, i_123, i_125, i_126, i_127, i_160, i_255, i_300, i_400]; done)
    | (rw [qM_s]; refine k5.mod (by unfold nBack; simp (disch := omega) only [↓reduceIte, nI_leT, nI_leF, nI_ltT, nI_ltF, nI_eqT, nI_eqF, xin_T, nI_clampT, nI_add, nI_inc, pk_subT, xb_some, xval, xlet, mI_s, mI_n, mI_k, mI_2, mJ_1, mJ_s, mJ_n, mJ_k, mJ_2, mT_1, mT_2, mT_s, mT_n, mT_k, mT_3, mR_1, mR_2, mR_3, bI_0, bI_1, bI_n0, bI_n1, Bool.true_eq_false, Bool.false_eq_true, eq_self, i_0, i_1, i_2, i_3, i_4, i_5, i_6, i_7, i_8, i_9, i_10, i_11, i_12, i_13, i_14, i_15, i_16, i_17, i_18, i_19, i_20, i_21, i_22, i_23, i_24, i_25, i_26, i_27, i_28, i_29, i_30, i_31, i_32, i_33, i_34, i_35, i_36, i_37, i_38, i_39, i_40, i_41, i_42, i_43, i_44, i_45, i_48, i_49, i_57, i_59, i_60, i_61, i_62, i_64, i_97, i_110, i_122, i_123, i_125, i_126, i_127, i_160, i_255, i_300, i_400]) ?_
       intro c hc
       have q := k5.2 c hc
       simp only [c5, List.mem_cons, List.not_mem_nil, or_false] at hc
       rcases hc with rfl <;> (refine ⟨fun i hi hne => ?_, fun hi => ?_⟩ <;> first | (unfold nBack; simp (disch := omega) only [↓reduceIte, nI_leT, nI_leF, nI_ltT, nI_ltF, nI_eqT, nI_eqF, xin_T, nI_clampT, nI_add, nI_inc, pk_subT, xb_some, xval, xlet, mI_s, mI_n, mI_k, mI_2, mJ_1, mJ_s, mJ_n, mJ_k, mJ_2, mT_1, mT_2, mT_s, mT_n, mT_k, mT_3, mR_1, mR_2, mR_3, bI_0, bI_1, bI_n0, bI_n1, Bool.true_eq_false, Bool.false_eq_true, eq_self, i_0, i_1, i_2, i_3, i_4, i_5, i_6, i_7, i_8, i_9, i_10, i_11, i_12, i_13, i_14, i_15, i_16, i_17, i_18, i_19, i_20, i_21, i_22, i_23, i_24, i_25, i_26, i_27, i_28, i_29, i_30, i_31, i_32, i_33, i_34, i_35, i_36, i_37, i_38, i_39, i_40, i_41, i_42, i_43, i_44, i_45, i_48, i_49, i_57, i_59, i_60, i_61, i_62, i_64, i_97, i_110, i_122, i_123, i_125, i_126, i_127, i_160, i_255, i_300, i_400]; done) | (unfold nBack; simp (disch := omega) only [↓reduceIte, nI_leT, nI_leF, nI_ltT, nI_ltF, nI_eqT, nI_eqF, xin_T, nI_clampT, nI_add, nI_inc, pk_subT, xb_some, xval, xlet, mI_s, mI_n, mI_k, mI_2, mJ_1, mJ_s, mJ_n, mJ_k, mJ_2, mT_1, mT_2, mT_s, mT_n, mT_k, mT_3, mR_1, mR_2, mR_3, bI_0, bI_1, bI_n0, bI_n1, Bool.true_eq_false, Bool.false_eq_true, eq_self, i_0, i_1, i_2, i_3, i_4, i_5, i_6, i_7, i_8, i_9, i_10, i_11, i_12, i_13, i_14, i_15, i_16, i_17, i_18, i_19, i_20, i_21, i_22, i_23, i_24, i_25, i_26, i_27, i_28, i_29, i_30, i_31, i_32, i_33, i_34, i_35, i_36, i_37, i_38, i_39, i_40, i_41, i_42, i_43, i_44, i_45, i_48, i_49, i_57, i_59, i_60, i_61, i_62, i_64, i_97, i_110, i_122, i_123, i_125, i_126, i_127, i_160, i_255, i_300, i_400]; exact q _ hi)))
theorem nBack_gr {M : xMem} {b : Nat} {n g : Nat} : rF (rGrS b) M (nBack M b n g) := nBack_fr.mono (by intro a k; unfold nBackS rGrS; omega)
theorem nBack_4 {M : xMem} {b : Nat} {n g : Nat} : (nBack M b n g).1 b 4 = M.1 b 4 := nBack_fr.2 _ _ (by unfold nBackS; omega)
def nVal (M : xMem) (b : Nat) (n v : Nat) : xMem := wI M (b + 23) n (nI (v + 1))
def nValS (b : Nat) (a k : Nat) : Prop := a = b + 23
theorem nVal_fr {M : xMem} {b : Nat} {n v : Nat} : rF (nValS b) M (nVal M b n v) := by
  unfold nVal
  exact (rF.I (by unfold nValS; omega))
theorem nQ_nVal {M : xMem} {b tok sc : Nat} {t : List Nat} {r : List qI} {L : qL} {n : Nat} (h : nQ M b t r tok sc L)  : nQ (nVal M b n (qg (L 1) n).2.2.2.2) b t r tok sc (qM 1 n (fun e => (e.1, e.2.1, e.2.2.1, e.2.2.2.1, e.2.2.2.2 + 1)) L) := by
  obtain ⟨h1, h2, h3, h4, h5, k0, k5, k1, k2, k14, k15, k16, k6, k18, k19, k4, kx⟩ := h
  have f := nVal_fr (M := M) (b := b) (n := n) (v := (qg (L 1) n).2.2.2.2)
  refine ⟨h1.gr (f.mono (by intro a k; unfold nValS rGrS; omega)), ?_, ?_, h4.to ?_, ?_, k0.fr f ?_ ?_, k5.fr f ?_ ?_, ?_, k2.fr f ?_ ?_, k14.fr f ?_ ?_, k15.fr f ?_ ?_, k16.fr f ?_ ?_, k6.fr f ?_ ?_, k18.fr f ?_ ?_, k19.fr f ?_ ?_, k4.fr f ?_ ?_, ?_⟩
  all_goals first
    | (rw [f.2 _ _ (by unfold nValS; omega)]; assumption)
    | (unfold nValS; omega)
    | (intro a h j; simp [c0, c1, c14, c15, c16, c18, c19, c2, c4, c5, c6] at h; unfold nValS; omega)
    | (intro a j q1 q2 q3; exact f.2 _ _ (by unfold nValS; omega))
    | (intro i hi hn; rw [f.2 _ _ (by unfold nValS; omega)]; exact kx i hi hn)
    | (unfold nVal; simp (disch := omega) only [↓reduceIte, nI_leT, nI_leF, nI_ltT, nI_ltF, nI_eqT, nI_eqF, xin_T, nI_clampT, nI_add, nI_inc, pk_subT, xb_some, xval, xlet, mI_s, mI_n, mI_k, mI_2, mJ_1, mJ_s, mJ_n, mJ_k, mJ_2, mT_1, mT_2, mT_s, mT_n, mT_k, mT_3, mR_1, mR_2, mR_3, bI_0, bI_1, bI_n0, bI_n1, Bool.true_eq_false, Bool.false_eq_true, eq_self, i_0, i_1, i_2, i_3, i_4, i_5, i_6, i_7, i_8, i_9, i_10, i_11, i_12, i_13, i_14, i_15, i_16, i_17, i_18, i_19, i_20, i_21, i_22, i_23, i_24, i_25, i_26, i_27, i_28, i_29, i_30, i_31, i_32, i_33, i_34, i_35, i_36, i_37, i_38, i_39, i_40, i_41, i_42, i_43, i_44, i_45, i_48, i_49, i_57, i_59, i_60, i_61, i_62, i_64, i_97, i_110, i_122, i_123, i_125, i_126, i_127, i_160, i_255, i_300, i_400]; done)
    | (rw [qM_s]; refine k1.mod (by unfold nVal; simp (disch := omega) only [↓reduceIte, nI_leT, nI_leF, nI_ltT, nI_ltF, nI_eqT, nI_eqF, xin_T, nI_clampT, nI_add, nI_inc, pk_subT, xb_some, xval, xlet, mI_s, mI_n, mI_k, mI_2, mJ_1, mJ_s, mJ_n, mJ_k, mJ_2, mT_1, mT_2, mT_s, mT_n, mT_k, mT_3, mR_1, mR_2, mR_3, bI_0, bI_1, bI_n0, bI_n1, Bool.true_eq_false, Bool.false_eq_true, eq_self, i_0, i_1, i_2, i_3, i_4, i_5, i_6, i_7, i_8, i_9, i_10, i_11, i_12, i_13, i_14, i_15, i_16, i_17, i_18, i_19, i_20, i_21, i_22, i_23, i_24, i_25, i_26, i_27, i_28, i_29, i_30, i_31, i_32, i_33, i_34, i_35, i_36, i_37, i_38, i_39, i_40, i_41, i_42, i_43, i_44, i_45, i_48, i_49, i_57, i_59, i_60, i_61, i_62, i_64, i_97, i_110, i_122, i_123, i_125, i_126, i_127, i_160, i_255, i_300, i_400]) ?_
       intro c hc
       have q := k1.2 c hc
       simp only [c1, List.mem_cons, List.not_mem_nil, or_false] at hc
       rcases hc with rfl | rfl | rfl | rfl | rfl | rfl <;> (refine ⟨fun i hi hne => ?_, fun hi => ?_⟩ <;> first | (unfold nVal; simp (disch := omega) only [↓reduceIte, nI_leT, nI_leF, nI_ltT, nI_ltF, nI_eqT, nI_eqF, xin_T, nI_clampT, nI_add, nI_inc, pk_subT, xb_some, xval, xlet, mI_s, mI_n, mI_k, mI_2, mJ_1, mJ_s, mJ_n, mJ_k, mJ_2, mT_1, mT_2, mT_s, mT_n, mT_k, mT_3, mR_1, mR_2, mR_3, bI_0, bI_1, bI_n0, bI_n1, Bool.true_eq_false, Bool.false_eq_true, eq_self, i_0, i_1, i_2, i_3, i_4, i_5, i_6, i_7, i_8, i_9, i_10, i_11, i_12, i_13, i_14, i_15, i_16, i_17, i_18, i_19, i_20, i_21, i_22, i_23, i_24, i_25, i_26, i_27, i_28, i_29, i_30, i_31, i_32, i_33, i_34, i_35, i_36, i_37, i_38, i_39, i_40, i_41, i_42, i_43, i_44, i_45, i_48, i_49, i_57, i_59, i_60, i_61, i_62, i_64, i_97, i_110, i_122, i_123, i_125, i_126, i_127, i_160, i_255, i_300, i_400]; done) | (unfold nVal; simp (disch := omega) only [↓reduceIte, nI_leT, nI_leF, nI_ltT, nI_ltF, nI_eqT, nI_eqF, xin_T, nI_clampT, nI_add, nI_inc, pk_subT, xb_some, xval, xlet, mI_s, mI_n, mI_k, mI_2, mJ_1, mJ_s, mJ_n, mJ_k, mJ_2, mT_1, mT_2, mT_s, mT_n, mT_k, mT_3, mR_1, mR_2, mR_3, bI_0, bI_1, bI_n0, bI_n1, Bool.true_eq_false, Bool.false_eq_true, eq_self, i_0, i_1, i_2, i_3, i_4, i_5, i_6, i_7, i_8, i_9, i_10, i_11, i_12, i_13, i_14, i_15, i_16, i_17, i_18, i_19, i_20, i_21, i_22, i_23, i_24, i_25, i_26, i_27, i_28, i_29, i_30, i_31, i_32, i_33, i_34, i_35, i_36, i_37, i_38, i_39, i_40, i_41, i_42, i_43, i_44, i_45, i_48, i_49, i_57, i_59, i_60, i_61, i_62, i_64, i_97, i_110, i_122, i_123, i_125, i_126, i_127, i_160, i_255, i_300, i_400]; exact q _ hi)))
theorem nVal_gr {M : xMem} {b : Nat} {n v : Nat} : rF (rGrS b) M (nVal M b n v) := nVal_fr.mono (by intro a k; unfold nValS rGrS; omega)
theorem nVal_4 {M : xMem} {b : Nat} {n v : Nat} : (nVal M b n v).1 b 4 = M.1 b 4 := nVal_fr.2 _ _ (by unfold nValS; omega)
def nTime (M : xMem) (b : Nat) (n v : Nat) : xMem := wI M (b + 21) n (nI (v + 1))
def nTimeS (b : Nat) (a k : Nat) : Prop := a = b + 21
theorem nTime_fr {M : xMem} {b : Nat} {n v : Nat} : rF (nTimeS b) M (nTime M b n v) := by
  unfold nTime
  exact (rF.I (by unfold nTimeS; omega))
theorem nQ_nTime {M : xMem} {b tok sc : Nat} {t : List Nat} {r : List qI} {L : qL} {n : Nat} (h : nQ M b t r tok sc L)  : nQ (nTime M b n (qg (L 1) n).2.2.2.1) b t r tok sc (qM 1 n (fun e => (e.1, e.2.1, e.2.2.1, e.2.2.2.1 + 1, e.2.2.2.2)) L) := by
  obtain ⟨h1, h2, h3, h4, h5, k0, k5, k1, k2, k14, k15, k16, k6, k18, k19, k4, kx⟩ := h
  have f := nTime_fr (M := M) (b := b) (n := n) (v := (qg (L 1) n).2.2.2.1)
  refine ⟨h1.gr (f.mono (by intro a k; unfold nTimeS rGrS; omega)), ?_, ?_, h4.to ?_, ?_, k0.fr f ?_ ?_, k5.fr f ?_ ?_, ?_, k2.fr f ?_ ?_, k14.fr f ?_ ?_, k15.fr f ?_ ?_, k16.fr f ?_ ?_, k6.fr f ?_ ?_, k18.fr f ?_ ?_, k19.fr f ?_ ?_, k4.fr f ?_ ?_, ?_⟩
  all_goals first
    | (rw [f.2 _ _ (by unfold nTimeS; omega)]; assumption)
    | (unfold nTimeS; omega)
    | (intro a h j; simp [c0, c1, c14, c15, c16, c18, c19, c2, c4, c5, c6] at h; unfold nTimeS; omega)
    | (intro a j q1 q2 q3; exact f.2 _ _ (by unfold nTimeS; omega))
    | (intro i hi hn; rw [f.2 _ _ (by unfold nTimeS; omega)]; exact kx i hi hn)
    | (unfold nTime; simp (disch := omega) only [↓reduceIte, nI_leT, nI_leF, nI_ltT, nI_ltF, nI_eqT, nI_eqF, xin_T, nI_clampT, nI_add, nI_inc, pk_subT, xb_some, xval, xlet, mI_s, mI_n, mI_k, mI_2, mJ_1, mJ_s, mJ_n, mJ_k, mJ_2, mT_1, mT_2, mT_s, mT_n, mT_k, mT_3, mR_1, mR_2, mR_3, bI_0, bI_1, bI_n0, bI_n1, Bool.true_eq_false, Bool.false_eq_true, eq_self, i_0, i_1, i_2, i_3, i_4, i_5, i_6, i_7, i_8, i_9, i_10, i_11, i_12, i_13, i_14, i_15, i_16, i_17, i_18, i_19, i_20, i_21, i_22, i_23, i_24, i_25, i_26, i_27, i_28, i_29, i_30, i_31, i_32, i_33, i_34, i_35, i_36, i_37, i_38, i_39, i_40, i_41, i_42, i_43, i_44, i_45, i_48, i_49, i_57, i_59, i_60, i_61, i_62, i_64, i_97, i_110, i_122, i_123, i_125, i_126, i_127, i_160, i_255, i_300, i_400]; done)
    | (rw [qM_s]; refine k1.mod (by unfold nTime; simp (disch := omega) only [↓reduceIte, nI_leT, nI_leF, nI_ltT, nI_ltF, nI_eqT, nI_eqF, xin_T, nI_clampT, nI_add, nI_inc, pk_subT, xb_some, xval, xlet, mI_s, mI_n, mI_k, mI_2, mJ_1, mJ_s, mJ_n, mJ_k, mJ_2, mT_1, mT_2, mT_s, mT_n, mT_k, mT_3, mR_1, mR_2, mR_3, bI_0, bI_1, bI_n0, bI_n1, Bool.true_eq_false, Bool.false_eq_true, eq_self, i_0, i_1, i_2, i_3, i_4, i_5, i_6, i_7, i_8, i_9, i_10, i_11, i_12, i_13, i_14, i_15, i_16, i_17, i_18, i_19, i_20, i_21, i_22, i_23, i_24, i_25, i_26, i_27, i_28, i_29, i_30, i_31, i_32, i_33, i_34, i_35, i_36, i_37, i_38, i_39, i_40, i_41, i_42, i_43, i_44, i_45, i_48, i_49, i_57, i_59, i_60, i_61, i_62, i_64, i_97, i_110, i_122, i_123, i_125, i_126, i_127, i_160, i_255, i_300, i_400]) ?_
       intro c hc
       have q := k1.2 c hc
       simp only [c1, List.mem_cons, List.not_mem_nil, or_false] at hc
       rcases hc with rfl | rfl | rfl | rfl | rfl | rfl <;> (refine ⟨fun i hi hne => ?_, fun hi => ?_⟩ <;> first | (unfold nTime; simp (disch := omega) only [↓reduceIte, nI_leT, nI_leF, nI_ltT, nI_ltF, nI_eqT, nI_eqF, xin_T, nI_clampT, nI_add, nI_inc, pk_subT, xb_some, xval, xlet, mI_s, mI_n, mI_k, mI_2, mJ_1, mJ_s, mJ_n, mJ_k, mJ_2, mT_1, mT_2, mT_s, mT_n, mT_k, mT_3, mR_1, mR_2, mR_3, bI_0, bI_1, bI_n0, bI_n1, Bool.true_eq_false, Bool.false_eq_true, eq_self, i_0, i_1, i_2, i_3, i_4, i_5, i_6, i_7, i_8, i_9, i_10, i_11, i_12, i_13, i_14, i_15, i_16, i_17, i_18, i_19, i_20, i_21, i_22, i_23, i_24, i_25, i_26, i_27, i_28, i_29, i_30, i_31, i_32, i_33, i_34, i_35, i_36, i_37, i_38, i_39, i_40, i_41, i_42, i_43, i_44, i_45, i_48, i_49, i_57, i_59, i_60, i_61, i_62, i_64, i_97, i_110, i_122, i_123, i_125, i_126, i_127, i_160, i_255, i_300, i_400]; done) | (unfold nTime; simp (disch := omega) only [↓reduceIte, nI_leT, nI_leF, nI_ltT, nI_ltF, nI_eqT, nI_eqF, xin_T, nI_clampT, nI_add, nI_inc, pk_subT, xb_some, xval, xlet, mI_s, mI_n, mI_k, mI_2, mJ_1, mJ_s, mJ_n, mJ_k, mJ_2, mT_1, mT_2, mT_s, mT_n, mT_k, mT_3, mR_1, mR_2, mR_3, bI_0, bI_1, bI_n0, bI_n1, Bool.true_eq_false, Bool.false_eq_true, eq_self, i_0, i_1, i_2, i_3, i_4, i_5, i_6, i_7, i_8, i_9, i_10, i_11, i_12, i_13, i_14, i_15, i_16, i_17, i_18, i_19, i_20, i_21, i_22, i_23, i_24, i_25, i_26, i_27, i_28, i_29, i_30, i_31, i_32, i_33, i_34, i_35, i_36, i_37, i_38, i_39, i_40, i_41, i_42, i_43, i_44, i_45, i_48, i_49, i_57, i_59, i_60, i_61, i_62, i_64, i_97, i_110, i_122, i_123, i_125, i_126, i_127, i_160, i_255, i_300, i_400]; exact q _ hi)))
theorem nTime_gr {M : xMem} {b : Nat} {n v : Nat} : rF (rGrS b) M (nTime M b n v) := nTime_fr.mono (by intro a k; unfold nTimeS rGrS; omega)
theorem nTime_4 {M : xMem} {b : Nat} {n v : Nat} : (nTime M b n v).1 b 4 = M.1 b 4 := nTime_fr.2 _ _ (by unfold nTimeS; omega)
def nThing (M : xMem) (b : Nat) (n p s k : Nat) : xMem := wI (wI (wI (wI (wI (wI (wI (wI M b 36 (nI (n + 1))) (b + 18) n (nI p)) (b + 19) n (nI s)) (b + 20) n (nI k)) (b + 21) n (nI 0)) (b + 22) n (nI 0)) (b + 23) n (nI 0)) (b + 21) n (nI 1)
def nThingS (b : Nat) (a k : Nat) : Prop := (a = b ∧ k = 36) ∨ (b + 18 ≤ a ∧ a ≤ b + 23)
theorem nThing_fr {M : xMem} {b : Nat} {n p s k : Nat} : rF (nThingS b) M (nThing M b n p s k) := by
  unfold nThing
  exact (((((((((((((((rF.I (by unfold nThingS; omega))).trans (rF.I (by unfold nThingS; omega)))).trans (rF.I (by unfold nThingS; omega)))).trans (rF.I (by unfold nThingS; omega)))).trans (rF.I (by unfold nThingS; omega)))).trans (rF.I (by unfold nThingS; omega)))).trans (rF.I (by unfold nThingS; omega)))).trans (rF.I (by unfold nThingS; omega)))
theorem nQ_nThing {M : xMem} {b tok sc : Nat} {t : List Nat} {r : List qI} {L : qL} {p s k : Nat} (h : nQ M b t r tok sc L)  : nQ (nThing M b (L 1).length p s k) b t r tok sc (qA 1 (p, s, k, 1, 0) L) := by
  obtain ⟨h1, h2, h3, h4, h5, k0, k5, k1, k2, k14, k15, k16, k6, k18, k19, k4, kx⟩ := h
  have f := nThing_fr (M := M) (b := b) (n := (L 1).length) (p := p) (s := s) (k := k)
  refine ⟨h1.gr (f.mono (by intro a k; unfold nThingS rGrS; omega)), ?_, ?_, h4.to ?_, ?_, k0.fr f ?_ ?_, k5.fr f ?_ ?_, ?_, k2.fr f ?_ ?_, k14.fr f ?_ ?_, k15.fr f ?_ ?_, k16.fr f ?_ ?_, k6.fr f ?_ ?_, k18.fr f ?_ ?_, k19.fr f ?_ ?_, k4.fr f ?_ ?_, ?_⟩
  all_goals first
    | (rw [f.2 _ _ (by unfold nThingS; omega)]; assumption)
    | (unfold nThingS; omega)
    | (intro a h j; simp [c0, c1, c14, c15, c16, c18, c19, c2, c4, c5, c6] at h; unfold nThingS; omega)
    | (intro a j q1 q2 q3; exact f.2 _ _ (by unfold nThingS; omega))
    | (intro i hi hn; rw [f.2 _ _ (by unfold nThingS; omega)]; exact kx i hi hn)
    | (unfold nThing; simp (disch := omega) only [↓reduceIte, nI_leT, nI_leF, nI_ltT, nI_ltF, nI_eqT, nI_eqF, xin_T, nI_clampT, nI_add, nI_inc, pk_subT, xb_some, xval, xlet, mI_s, mI_n, mI_k, mI_2, mJ_1, mJ_s, mJ_n, mJ_k, mJ_2, mT_1, mT_2, mT_s, mT_n, mT_k, mT_3, mR_1, mR_2, mR_3, bI_0, bI_1, bI_n0, bI_n1, Bool.true_eq_false, Bool.false_eq_true, eq_self, i_0, i_1, i_2, i_3, i_4, i_5, i_6, i_7, i_8, i_9, i_10, i_11, i_12, i_13, i_14, i_15, i_16, i_17, i_18, i_19, i_20, i_21, i_22, i_23, i_24, i_25, i_26, i_27, i_28, i_29, i_30, i_31, i_32, i_33, i_34, i_35, i_36, i_37, i_38, i_39, i_40, i_41, i_42, i_43, i_44, i_45, i_48, i_49, i_57, i_59, i_60, i_61, i_62, i_64, i_97, i_110, i_122, i_123, i_125, i_126, i_127, i_160, i_255, i_300, i_400]; done)
    | (rw [qA_s]; refine k1.app (by unfold nThing; simp (disch := omega) only [↓reduceIte, nI_leT, nI_leF, nI_ltT, nI_ltF, nI_eqT, nI_eqF, xin_T, nI_clampT, nI_add, nI_inc, pk_subT, xb_some, xval, xlet, mI_s, mI_n, mI_k, mI_2, mJ_1, mJ_s, mJ_n, mJ_k, mJ_2, mT_1, mT_2, mT_s, mT_n, mT_k, mT_3, mR_1, mR_2, mR_3, bI_0, bI_1, bI_n0, bI_n1, Bool.true_eq_false, Bool.false_eq_true, eq_self, i_0, i_1, i_2, i_3, i_4, i_5, i_6, i_7, i_8, i_9, i_10, i_11, i_12, i_13, i_14, i_15, i_16, i_17, i_18, i_19, i_20, i_21, i_22, i_23, i_24, i_25, i_26, i_27, i_28, i_29, i_30, i_31, i_32, i_33, i_34, i_35, i_36, i_37, i_38, i_39, i_40, i_41, i_42, i_43, i_44, i_45, i_48, i_49, i_57, i_59, i_60, i_61, i_62, i_64, i_97, i_110, i_122, i_123, i_125, i_126, i_127, i_160, i_255, i_300, i_400]) ?_
       intro c hc
       simp only [c1, List.mem_cons, List.not_mem_nil, or_false] at hc
       rcases hc with rfl | rfl | rfl | rfl | rfl | rfl <;> (refine ⟨fun i hi => ?_, ?_⟩ <;> (unfold nThing; simp (disch := omega) only [↓reduceIte, nI_leT, nI_leF, nI_ltT, nI_ltF, nI_eqT, nI_eqF, xin_T, nI_clampT, nI_add, nI_inc, pk_subT, xb_some, xval, xlet, mI_s, mI_n, mI_k, mI_2, mJ_1, mJ_s, mJ_n, mJ_k, mJ_2, mT_1, mT_2, mT_s, mT_n, mT_k, mT_3, mR_1, mR_2, mR_3, bI_0, bI_1, bI_n0, bI_n1, Bool.true_eq_false, Bool.false_eq_true, eq_self, i_0, i_1, i_2, i_3, i_4, i_5, i_6, i_7, i_8, i_9, i_10, i_11, i_12, i_13, i_14, i_15, i_16, i_17, i_18, i_19, i_20, i_21, i_22, i_23, i_24, i_25, i_26, i_27, i_28, i_29, i_30, i_31, i_32, i_33, i_34, i_35, i_36, i_37, i_38, i_39, i_40, i_41, i_42, i_43, i_44, i_45, i_48, i_49, i_57, i_59, i_60, i_61, i_62, i_64, i_97, i_110, i_122, i_123, i_125, i_126, i_127, i_160, i_255, i_300, i_400])))
theorem nThing_gr {M : xMem} {b : Nat} {n p s k : Nat} : rF (rGrS b) M (nThing M b n p s k) := nThing_fr.mono (by intro a k; unfold nThingS rGrS; omega)
theorem nThing_4 {M : xMem} {b : Nat} {n p s k : Nat} : (nThing M b n p s k).1 b 4 = M.1 b 4 := nThing_fr.2 _ _ (by unfold nThingS; omega)
def nScp (M : xMem) (b : Nat) (s : Nat) : xMem := wI M b 28 (nI s)
def nScpS (b : Nat) (a k : Nat) : Prop := (a = b ∧ k = 28)
theorem nScp_fr {M : xMem} {b : Nat} {s : Nat} : rF (nScpS b) M (nScp M b s) := by
  unfold nScp
  exact (rF.I (by unfold nScpS; omega))
theorem nQ_nScp {M : xMem} {b tok sc : Nat} {t : List Nat} {r : List qI} {L : qL} {s : Nat} (h : nQ M b t r tok sc L)  : nQ (nScp M b s) b t r tok s (L) := by
  obtain ⟨h1, h2, h3, h4, h5, k0, k5, k1, k2, k14, k15, k16, k6, k18, k19, k4, kx⟩ := h
  have f := nScp_fr (M := M) (b := b) (s := s)
  refine ⟨h1.gr (f.mono (by intro a k; unfold nScpS rGrS; omega)), ?_, ?_, h4.to ?_, ?_, k0.fr f ?_ ?_, k5.fr f ?_ ?_, k1.fr f ?_ ?_, k2.fr f ?_ ?_, k14.fr f ?_ ?_, k15.fr f ?_ ?_, k16.fr f ?_ ?_, k6.fr f ?_ ?_, k18.fr f ?_ ?_, k19.fr f ?_ ?_, k4.fr f ?_ ?_, ?_⟩
  all_goals first
    | (rw [f.2 _ _ (by unfold nScpS; omega)]; assumption)
    | (unfold nScpS; omega)
    | (intro a h j; simp [c0, c1, c14, c15, c16, c18, c19, c2, c4, c5, c6] at h; unfold nScpS; omega)
    | (intro a j q1 q2 q3; exact f.2 _ _ (by unfold nScpS; omega))
    | (intro i hi hn; rw [f.2 _ _ (by unfold nScpS; omega)]; exact kx i hi hn)
    | (unfold nScp; simp (disch := omega) only [↓reduceIte, nI_leT, nI_leF, nI_ltT, nI_ltF, nI_eqT, nI_eqF, xin_T, nI_clampT, nI_add, nI_inc, pk_subT, xb_some, xval, xlet, mI_s, mI_n, mI_k, mI_2, mJ_1, mJ_s, mJ_n, mJ_k, mJ_2, mT_1, mT_2, mT_s, mT_n, mT_k, mT_3, mR_1, mR_2, mR_3, bI_0, bI_1, bI_n0, bI_n1, Bool.true_eq_false, Bool.false_eq_true, eq_self, i_0, i_1, i_2, i_3, i_4, i_5, i_6, i_7, i_8, i_9, i_10, i_11, i_12, i_13, i_14, i_15, i_16, i_17, i_18, i_19, i_20, i_21, i_22, i_23, i_24, i_25, i_26, i_27, i_28, i_29, i_30, i_31, i_32, i_33, i_34, i_35, i_36, i_37, i_38, i_39, i_40, i_41, i_42, i_43, i_44, i_45, i_48, i_49, i_57, i_59, i_60, i_61, i_62, i_64, i_97, i_110, i_122, i_123, i_125, i_126, i_127, i_160, i_255, i_300, i_400]; done)

theorem nScp_gr {M : xMem} {b : Nat} {s : Nat} : rF (rGrS b) M (nScp M b s) := nScp_fr.mono (by intro a k; unfold nScpS rGrS; omega)
theorem nScp_4 {M : xMem} {b : Nat} {s : Nat} : (nScp M b s).1 b 4 = M.1 b 4 := nScp_fr.2 _ _ (by unfold nScpS; omega)
