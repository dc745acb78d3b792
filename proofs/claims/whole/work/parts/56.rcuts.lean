/-! PURE: the reference's cuts() -/
def rTx (M : xMem) (b : Nat) (t : List Nat) : Prop := M.1 b 2 = nI t.length ∧ t.length ≤ 160 ∧ (∀ i, i < t.length → M.1 (b + 2) i = nI (pc t i)) ∧ ∀ i, pc t i < 256
/-- a kind's number in the reference -/
def rk (k : Nat) : Nat := if k ≤ 22 then k + 4 else if k = 26 then 0 else if k = 27 then 27 else k - 22
theorem rTx.fr {lo hi b : Nat} {M M' : xMem} {t : List Nat} (h : rTx M b t) (f : pFr lo hi M M') (hb : b + 2 < lo) : rTx M' b t := by
  obtain ⟨h1, h2, h3, h4⟩ := h
  refine ⟨?_, h2, ?_, h4⟩
  · rw [(f.1 b (by omega)).1]; exact h1
  · intro i hi; rw [(f.1 (b + 2) (by omega)).1]; exact h3 i hi
/-- the same text and size, whatever else -/
theorem rTx.to {b : Nat} {M M' : xMem} {t : List Nat} (h : rTx M b t) (e1 : M'.1 b 2 = M.1 b 2) (e2 : M'.1 (b + 2) = M.1 (b + 2)) : rTx M' b t := by
  obtain ⟨h1, h2, h3, h4⟩ := h
  exact ⟨by rw [e1]; exact h1, h2, by rw [e2]; exact h3, h4⟩
theorem r_c {M : xMem} {b k : Nat} {t : List Nat} (h : rTx M b t) (hk : k < 1000) : f_N_c b (nI k) M = some (nI (pc t k), M) := by
  obtain ⟨h1, h2, h3, h4⟩ := h
  unfold f_N_c
  by_cases c : k < t.length
  · have e := h3 k c
    simp (disch := omega) only [↓reduceIte, nI_leT, nI_leF, nI_ltT, nI_ltF, nI_eqT, nI_eqF, xin_T, nI_clampT, nI_add, nI_inc, pk_subT, xb_some, xval, xlet, mI_s, mI_n, mI_k, mI_2, mJ_1, mJ_s, mJ_n, mJ_k, mJ_2, mT_1, mT_2, mT_s, mT_n, mT_k, mT_3, mR_1, mR_2, mR_3, bI_0, bI_1, bI_n0, bI_n1, Bool.true_eq_false, Bool.false_eq_true, eq_self, i_0, i_1, i_2, i_3, i_4, i_5, i_6, i_7, i_8, i_9, i_10, i_11, i_12, i_13, i_14, i_15, i_16, i_17, i_18, i_19, i_20, i_21, i_22, i_23, i_24, i_25, i_26, i_27, i_28, i_29, i_30, i_31, i_32, i_33, i_34, i_35, i_36, i_37, i_38, i_39, i_40, i_41, i_42, i_43, i_44, i_45, i_48, i_49, i_57, i_59, i_60, i_61, i_62, i_64, i_97, i_110, i_122, i_123, i_125, i_126, i_127, i_160, i_255, i_300, i_400, h1, e]
  · rw [pc_end (by omega)]
    simp (disch := omega) only [↓reduceIte, nI_leT, nI_leF, nI_ltT, nI_ltF, nI_eqT, nI_eqF, xin_T, nI_clampT, nI_add, nI_inc, pk_subT, xb_some, xval, xlet, mI_s, mI_n, mI_k, mI_2, mJ_1, mJ_s, mJ_n, mJ_k, mJ_2, mT_1, mT_2, mT_s, mT_n, mT_k, mT_3, mR_1, mR_2, mR_3, bI_0, bI_1, bI_n0, bI_n1, Bool.true_eq_false, Bool.false_eq_true, eq_self, i_0, i_1, i_2, i_3, i_4, i_5, i_6, i_7, i_8, i_9, i_10, i_11, i_12, i_13, i_14, i_15, i_16, i_17, i_18, i_19, i_20, i_21, i_22, i_23, i_24, i_25, i_26, i_27, i_28, i_29, i_30, i_31, i_32, i_33, i_34, i_35, i_36, i_37, i_38, i_39, i_40, i_41, i_42, i_43, i_44, i_45, i_48, i_49, i_57, i_59, i_60, i_61, i_62, i_64, i_97, i_110, i_122, i_123, i_125, i_126, i_127, i_160, i_255, i_300, i_400, h1]
theorem r_isLetter {M : xMem} {c : Nat} (hc : c < 256) : f_N_isLetter (nI c) M = some (bI (pSmall c), M) := by
  unfold f_N_isLetter f_N_in
  by_cases c1 : c < 97
  · have e : pSmall c = false := decide_eq_false (by omega)
    simp (disch := omega) only [↓reduceIte, nI_leT, nI_leF, nI_ltT, nI_ltF, nI_eqT, nI_eqF, xin_T, nI_clampT, nI_add, nI_inc, pk_subT, xb_some, xval, xlet, mI_s, mI_n, mI_k, mI_2, mJ_1, mJ_s, mJ_n, mJ_k, mJ_2, mT_1, mT_2, mT_s, mT_n, mT_k, mT_3, mR_1, mR_2, mR_3, bI_0, bI_1, bI_n0, bI_n1, Bool.true_eq_false, Bool.false_eq_true, eq_self, i_0, i_1, i_2, i_3, i_4, i_5, i_6, i_7, i_8, i_9, i_10, i_11, i_12, i_13, i_14, i_15, i_16, i_17, i_18, i_19, i_20, i_21, i_22, i_23, i_24, i_25, i_26, i_27, i_28, i_29, i_30, i_31, i_32, i_33, i_34, i_35, i_36, i_37, i_38, i_39, i_40, i_41, i_42, i_43, i_44, i_45, i_48, i_49, i_57, i_59, i_60, i_61, i_62, i_64, i_97, i_110, i_122, i_123, i_125, i_126, i_127, i_160, i_255, i_300, i_400, e, xnarB0]
    rfl
  · by_cases c2 : 122 < c
    · have e : pSmall c = false := decide_eq_false (by omega)
      have l : (nI 122 < nI c) = True := eq_true (nI_lt (by omega) (by omega))
      simp (disch := omega) only [↓reduceIte, nI_leT, nI_leF, nI_ltT, nI_ltF, nI_eqT, nI_eqF, xin_T, nI_clampT, nI_add, nI_inc, pk_subT, xb_some, xval, xlet, mI_s, mI_n, mI_k, mI_2, mJ_1, mJ_s, mJ_n, mJ_k, mJ_2, mT_1, mT_2, mT_s, mT_n, mT_k, mT_3, mR_1, mR_2, mR_3, bI_0, bI_1, bI_n0, bI_n1, Bool.true_eq_false, Bool.false_eq_true, eq_self, i_0, i_1, i_2, i_3, i_4, i_5, i_6, i_7, i_8, i_9, i_10, i_11, i_12, i_13, i_14, i_15, i_16, i_17, i_18, i_19, i_20, i_21, i_22, i_23, i_24, i_25, i_26, i_27, i_28, i_29, i_30, i_31, i_32, i_33, i_34, i_35, i_36, i_37, i_38, i_39, i_40, i_41, i_42, i_43, i_44, i_45, i_48, i_49, i_57, i_59, i_60, i_61, i_62, i_64, i_97, i_110, i_122, i_123, i_125, i_126, i_127, i_160, i_255, i_300, i_400, e, xnarB0, l]
      rfl
    · have e : pSmall c = true := decide_eq_true (by omega)
      simp (disch := omega) only [↓reduceIte, nI_leT, nI_leF, nI_ltT, nI_ltF, nI_eqT, nI_eqF, xin_T, nI_clampT, nI_add, nI_inc, pk_subT, xb_some, xval, xlet, mI_s, mI_n, mI_k, mI_2, mJ_1, mJ_s, mJ_n, mJ_k, mJ_2, mT_1, mT_2, mT_s, mT_n, mT_k, mT_3, mR_1, mR_2, mR_3, bI_0, bI_1, bI_n0, bI_n1, Bool.true_eq_false, Bool.false_eq_true, eq_self, i_0, i_1, i_2, i_3, i_4, i_5, i_6, i_7, i_8, i_9, i_10, i_11, i_12, i_13, i_14, i_15, i_16, i_17, i_18, i_19, i_20, i_21, i_22, i_23, i_24, i_25, i_26, i_27, i_28, i_29, i_30, i_31, i_32, i_33, i_34, i_35, i_36, i_37, i_38, i_39, i_40, i_41, i_42, i_43, i_44, i_45, i_48, i_49, i_57, i_59, i_60, i_61, i_62, i_64, i_97, i_110, i_122, i_123, i_125, i_126, i_127, i_160, i_255, i_300, i_400, e, xnarB1]
      rfl
theorem r_isDigit {M : xMem} {c : Nat} (hc : c < 256) : f_N_isDigit (nI c) M = some (bI (pDigit c), M) := by
  unfold f_N_isDigit f_N_in
  by_cases c1 : c < 48
  · have e : pDigit c = false := decide_eq_false (by omega)
    simp (disch := omega) only [↓reduceIte, nI_leT, nI_leF, nI_ltT, nI_ltF, nI_eqT, nI_eqF, xin_T, nI_clampT, nI_add, nI_inc, pk_subT, xb_some, xval, xlet, mI_s, mI_n, mI_k, mI_2, mJ_1, mJ_s, mJ_n, mJ_k, mJ_2, mT_1, mT_2, mT_s, mT_n, mT_k, mT_3, mR_1, mR_2, mR_3, bI_0, bI_1, bI_n0, bI_n1, Bool.true_eq_false, Bool.false_eq_true, eq_self, i_0, i_1, i_2, i_3, i_4, i_5, i_6, i_7, i_8, i_9, i_10, i_11, i_12, i_13, i_14, i_15, i_16, i_17, i_18, i_19, i_20, i_21, i_22, i_23, i_24, i_25, i_26, i_27, i_28, i_29, i_30, i_31, i_32, i_33, i_34, i_35, i_36, i_37, i_38, i_39, i_40, i_41, i_42, i_43, i_44, i_45, i_48, i_49, i_57, i_59, i_60, i_61, i_62, i_64, i_97, i_110, i_122, i_123, i_125, i_126, i_127, i_160, i_255, i_300, i_400, e, xnarB0]
    rfl
  · by_cases c2 : 57 < c
    · have e : pDigit c = false := decide_eq_false (by omega)
      simp (disch := omega) only [↓reduceIte, nI_leT, nI_leF, nI_ltT, nI_ltF, nI_eqT, nI_eqF, xin_T, nI_clampT, nI_add, nI_inc, pk_subT, xb_some, xval, xlet, mI_s, mI_n, mI_k, mI_2, mJ_1, mJ_s, mJ_n, mJ_k, mJ_2, mT_1, mT_2, mT_s, mT_n, mT_k, mT_3, mR_1, mR_2, mR_3, bI_0, bI_1, bI_n0, bI_n1, Bool.true_eq_false, Bool.false_eq_true, eq_self, i_0, i_1, i_2, i_3, i_4, i_5, i_6, i_7, i_8, i_9, i_10, i_11, i_12, i_13, i_14, i_15, i_16, i_17, i_18, i_19, i_20, i_21, i_22, i_23, i_24, i_25, i_26, i_27, i_28, i_29, i_30, i_31, i_32, i_33, i_34, i_35, i_36, i_37, i_38, i_39, i_40, i_41, i_42, i_43, i_44, i_45, i_48, i_49, i_57, i_59, i_60, i_61, i_62, i_64, i_97, i_110, i_122, i_123, i_125, i_126, i_127, i_160, i_255, i_300, i_400, e, xnarB0]
      rfl
    · have e : pDigit c = true := decide_eq_true (by omega)
      simp (disch := omega) only [↓reduceIte, nI_leT, nI_leF, nI_ltT, nI_ltF, nI_eqT, nI_eqF, xin_T, nI_clampT, nI_add, nI_inc, pk_subT, xb_some, xval, xlet, mI_s, mI_n, mI_k, mI_2, mJ_1, mJ_s, mJ_n, mJ_k, mJ_2, mT_1, mT_2, mT_s, mT_n, mT_k, mT_3, mR_1, mR_2, mR_3, bI_0, bI_1, bI_n0, bI_n1, Bool.true_eq_false, Bool.false_eq_true, eq_self, i_0, i_1, i_2, i_3, i_4, i_5, i_6, i_7, i_8, i_9, i_10, i_11, i_12, i_13, i_14, i_15, i_16, i_17, i_18, i_19, i_20, i_21, i_22, i_23, i_24, i_25, i_26, i_27, i_28, i_29, i_30, i_31, i_32, i_33, i_34, i_35, i_36, i_37, i_38, i_39, i_40, i_41, i_42, i_43, i_44, i_45, i_48, i_49, i_57, i_59, i_60, i_61, i_62, i_64, i_97, i_110, i_122, i_123, i_125, i_126, i_127, i_160, i_255, i_300, i_400, e, xnarB1]
      rfl
/-- what spells() asks -/
def rSp (t : List Nat) (p e n a1 a2 a3 a4 a5 : Nat) : Prop := e - p = n ∧ pc t p = a1 ∧ pc t (p + 1) = a2 ∧ (3 ≤ n → pc t (p + 2) = a3) ∧ (4 ≤ n → pc t (p + 3) = a4) ∧ (5 ≤ n → pc t (p + 4) = a5)
theorem r_spells {M : xMem} {b k p e n a1 a2 a3 a4 a5 : Nat} {t : List Nat} (h : rTx M b t) (hk : k < 64) (hp : M.1 (b + 9) k = nI p) (he : M.1 (b + 10) k = nI e) (hpe : p ≤ e) (hel : e ≤ t.length) (hn : 2 ≤ n) (hn5 : n ≤ 5) (h1 : a1 < 256) (h2 : a2 < 256) (h3 : a3 < 256) (h4 : a4 < 256) (h5 : a5 < 256) : (rSp t p e n a1 a2 a3 a4 a5 → f_N_spells b (nI k) (nI n) (nI a1) (nI a2) (nI a3) (nI a4) (nI a5) M = some (nI 1, M)) ∧ (¬ rSp t p e n a1 a2 a3 a4 a5 → f_N_spells b (nI k) (nI n) (nI a1) (nI a2) (nI a3) (nI a4) (nI a5) M = some (nI 0, M)) := by
  obtain ⟨x1, x2, x3, x4⟩ := h
  unfold f_N_spells f_N_spells_71 f_N_spells_90 f_N_spells_109 rSp
  by_cases c0 : e - p = n
  · have y0 := x3 p (by omega)
    have y1 := x3 (p + 1) (by omega)
    have z0 := x4 p
    have z1 := x4 (p + 1)
    have z2 := x4 (p + 2)
    have z3 := x4 (p + 3)
    have z4 := x4 (p + 4)
    by_cases c1 : pc t p = a1
    · by_cases c2 : pc t (p + 1) = a2
      · by_cases n3 : n < 3
        · refine ⟨fun _ => ?_, fun h => absurd ⟨c0, c1, c2, fun h => by omega, fun h => by omega, fun h => by omega⟩ h⟩
          simp (disch := omega) only [↓reduceIte, nI_leT, nI_leF, nI_ltT, nI_ltF, nI_eqT, nI_eqF, xin_T, nI_clampT, nI_add, nI_inc, pk_subT, xb_some, xval, xlet, mI_s, mI_n, mI_k, mI_2, mJ_1, mJ_s, mJ_n, mJ_k, mJ_2, mT_1, mT_2, mT_s, mT_n, mT_k, mT_3, mR_1, mR_2, mR_3, bI_0, bI_1, bI_n0, bI_n1, Bool.true_eq_false, Bool.false_eq_true, eq_self, i_0, i_1, i_2, i_3, i_4, i_5, i_6, i_7, i_8, i_9, i_10, i_11, i_12, i_13, i_14, i_15, i_16, i_17, i_18, i_19, i_20, i_21, i_22, i_23, i_24, i_25, i_26, i_27, i_28, i_29, i_30, i_31, i_32, i_33, i_34, i_35, i_36, i_37, i_38, i_39, i_40, i_41, i_42, i_43, i_44, i_45, i_48, i_49, i_57, i_59, i_60, i_61, i_62, i_64, i_97, i_110, i_122, i_123, i_125, i_126, i_127, i_160, i_255, i_300, i_400, hp, he, y0, y1, c1, c2]
        · have y2 := x3 (p + 2) (by omega)
          by_cases c3 : pc t (p + 2) = a3
          · by_cases n4 : n < 4
            · refine ⟨fun _ => ?_, fun h => absurd ⟨c0, c1, c2, fun _ => c3, fun h => by omega, fun h => by omega⟩ h⟩
              simp (disch := omega) only [↓reduceIte, nI_leT, nI_leF, nI_ltT, nI_ltF, nI_eqT, nI_eqF, xin_T, nI_clampT, nI_add, nI_inc, pk_subT, xb_some, xval, xlet, mI_s, mI_n, mI_k, mI_2, mJ_1, mJ_s, mJ_n, mJ_k, mJ_2, mT_1, mT_2, mT_s, mT_n, mT_k, mT_3, mR_1, mR_2, mR_3, bI_0, bI_1, bI_n0, bI_n1, Bool.true_eq_false, Bool.false_eq_true, eq_self, i_0, i_1, i_2, i_3, i_4, i_5, i_6, i_7, i_8, i_9, i_10, i_11, i_12, i_13, i_14, i_15, i_16, i_17, i_18, i_19, i_20, i_21, i_22, i_23, i_24, i_25, i_26, i_27, i_28, i_29, i_30, i_31, i_32, i_33, i_34, i_35, i_36, i_37, i_38, i_39, i_40, i_41, i_42, i_43, i_44, i_45, i_48, i_49, i_57, i_59, i_60, i_61, i_62, i_64, i_97, i_110, i_122, i_123, i_125, i_126, i_127, i_160, i_255, i_300, i_400, hp, he, y0, y1, y2, c1, c2, c3]
            · have y3 := x3 (p + 3) (by omega)
              by_cases c4 : pc t (p + 3) = a4
              · by_cases n5 : n < 5
                · refine ⟨fun _ => ?_, fun h => absurd ⟨c0, c1, c2, fun _ => c3, fun _ => c4, fun h => by omega⟩ h⟩
                  simp (disch := omega) only [↓reduceIte, nI_leT, nI_leF, nI_ltT, nI_ltF, nI_eqT, nI_eqF, xin_T, nI_clampT, nI_add, nI_inc, pk_subT, xb_some, xval, xlet, mI_s, mI_n, mI_k, mI_2, mJ_1, mJ_s, mJ_n, mJ_k, mJ_2, mT_1, mT_2, mT_s, mT_n, mT_k, mT_3, mR_1, mR_2, mR_3, bI_0, bI_1, bI_n0, bI_n1, Bool.true_eq_false, Bool.false_eq_true, eq_self, i_0, i_1, i_2, i_3, i_4, i_5, i_6, i_7, i_8, i_9, i_10, i_11, i_12, i_13, i_14, i_15, i_16, i_17, i_18, i_19, i_20, i_21, i_22, i_23, i_24, i_25, i_26, i_27, i_28, i_29, i_30, i_31, i_32, i_33, i_34, i_35, i_36, i_37, i_38, i_39, i_40, i_41, i_42, i_43, i_44, i_45, i_48, i_49, i_57, i_59, i_60, i_61, i_62, i_64, i_97, i_110, i_122, i_123, i_125, i_126, i_127, i_160, i_255, i_300, i_400, hp, he, y0, y1, y2, y3, c1, c2, c3, c4]
                · have y4 := x3 (p + 4) (by omega)
                  by_cases c5 : pc t (p + 4) = a5
                  · refine ⟨fun _ => ?_, fun h => absurd ⟨c0, c1, c2, fun _ => c3, fun _ => c4, fun _ => c5⟩ h⟩
                    simp (disch := omega) only [↓reduceIte, nI_leT, nI_leF, nI_ltT, nI_ltF, nI_eqT, nI_eqF, xin_T, nI_clampT, nI_add, nI_inc, pk_subT, xb_some, xval, xlet, mI_s, mI_n, mI_k, mI_2, mJ_1, mJ_s, mJ_n, mJ_k, mJ_2, mT_1, mT_2, mT_s, mT_n, mT_k, mT_3, mR_1, mR_2, mR_3, bI_0, bI_1, bI_n0, bI_n1, Bool.true_eq_false, Bool.false_eq_true, eq_self, i_0, i_1, i_2, i_3, i_4, i_5, i_6, i_7, i_8, i_9, i_10, i_11, i_12, i_13, i_14, i_15, i_16, i_17, i_18, i_19, i_20, i_21, i_22, i_23, i_24, i_25, i_26, i_27, i_28, i_29, i_30, i_31, i_32, i_33, i_34, i_35, i_36, i_37, i_38, i_39, i_40, i_41, i_42, i_43, i_44, i_45, i_48, i_49, i_57, i_59, i_60, i_61, i_62, i_64, i_97, i_110, i_122, i_123, i_125, i_126, i_127, i_160, i_255, i_300, i_400, hp, he, y0, y1, y2, y3, y4, c1, c2, c3, c4, c5]
                  · refine ⟨fun h => absurd (h.2.2.2.2.2 (by omega)) c5, fun _ => ?_⟩
                    simp (disch := omega) only [↓reduceIte, nI_leT, nI_leF, nI_ltT, nI_ltF, nI_eqT, nI_eqF, xin_T, nI_clampT, nI_add, nI_inc, pk_subT, xb_some, xval, xlet, mI_s, mI_n, mI_k, mI_2, mJ_1, mJ_s, mJ_n, mJ_k, mJ_2, mT_1, mT_2, mT_s, mT_n, mT_k, mT_3, mR_1, mR_2, mR_3, bI_0, bI_1, bI_n0, bI_n1, Bool.true_eq_false, Bool.false_eq_true, eq_self, i_0, i_1, i_2, i_3, i_4, i_5, i_6, i_7, i_8, i_9, i_10, i_11, i_12, i_13, i_14, i_15, i_16, i_17, i_18, i_19, i_20, i_21, i_22, i_23, i_24, i_25, i_26, i_27, i_28, i_29, i_30, i_31, i_32, i_33, i_34, i_35, i_36, i_37, i_38, i_39, i_40, i_41, i_42, i_43, i_44, i_45, i_48, i_49, i_57, i_59, i_60, i_61, i_62, i_64, i_97, i_110, i_122, i_123, i_125, i_126, i_127, i_160, i_255, i_300, i_400, hp, he, y0, y1, y2, y3, y4, c1, c2, c3, c4]
              · refine ⟨fun h => absurd (h.2.2.2.2.1 (by omega)) c4, fun _ => ?_⟩
                simp (disch := omega) only [↓reduceIte, nI_leT, nI_leF, nI_ltT, nI_ltF, nI_eqT, nI_eqF, xin_T, nI_clampT, nI_add, nI_inc, pk_subT, xb_some, xval, xlet, mI_s, mI_n, mI_k, mI_2, mJ_1, mJ_s, mJ_n, mJ_k, mJ_2, mT_1, mT_2, mT_s, mT_n, mT_k, mT_3, mR_1, mR_2, mR_3, bI_0, bI_1, bI_n0, bI_n1, Bool.true_eq_false, Bool.false_eq_true, eq_self, i_0, i_1, i_2, i_3, i_4, i_5, i_6, i_7, i_8, i_9, i_10, i_11, i_12, i_13, i_14, i_15, i_16, i_17, i_18, i_19, i_20, i_21, i_22, i_23, i_24, i_25, i_26, i_27, i_28, i_29, i_30, i_31, i_32, i_33, i_34, i_35, i_36, i_37, i_38, i_39, i_40, i_41, i_42, i_43, i_44, i_45, i_48, i_49, i_57, i_59, i_60, i_61, i_62, i_64, i_97, i_110, i_122, i_123, i_125, i_126, i_127, i_160, i_255, i_300, i_400, hp, he, y0, y1, y2, y3, c1, c2, c3]
          · refine ⟨fun h => absurd (h.2.2.2.1 (by omega)) c3, fun _ => ?_⟩
            simp (disch := omega) only [↓reduceIte, nI_leT, nI_leF, nI_ltT, nI_ltF, nI_eqT, nI_eqF, xin_T, nI_clampT, nI_add, nI_inc, pk_subT, xb_some, xval, xlet, mI_s, mI_n, mI_k, mI_2, mJ_1, mJ_s, mJ_n, mJ_k, mJ_2, mT_1, mT_2, mT_s, mT_n, mT_k, mT_3, mR_1, mR_2, mR_3, bI_0, bI_1, bI_n0, bI_n1, Bool.true_eq_false, Bool.false_eq_true, eq_self, i_0, i_1, i_2, i_3, i_4, i_5, i_6, i_7, i_8, i_9, i_10, i_11, i_12, i_13, i_14, i_15, i_16, i_17, i_18, i_19, i_20, i_21, i_22, i_23, i_24, i_25, i_26, i_27, i_28, i_29, i_30, i_31, i_32, i_33, i_34, i_35, i_36, i_37, i_38, i_39, i_40, i_41, i_42, i_43, i_44, i_45, i_48, i_49, i_57, i_59, i_60, i_61, i_62, i_64, i_97, i_110, i_122, i_123, i_125, i_126, i_127, i_160, i_255, i_300, i_400, hp, he, y0, y1, y2, c1, c2]
      · refine ⟨fun h => absurd h.2.2.1 c2, fun _ => ?_⟩
        simp (disch := omega) only [↓reduceIte, nI_leT, nI_leF, nI_ltT, nI_ltF, nI_eqT, nI_eqF, xin_T, nI_clampT, nI_add, nI_inc, pk_subT, xb_some, xval, xlet, mI_s, mI_n, mI_k, mI_2, mJ_1, mJ_s, mJ_n, mJ_k, mJ_2, mT_1, mT_2, mT_s, mT_n, mT_k, mT_3, mR_1, mR_2, mR_3, bI_0, bI_1, bI_n0, bI_n1, Bool.true_eq_false, Bool.false_eq_true, eq_self, i_0, i_1, i_2, i_3, i_4, i_5, i_6, i_7, i_8, i_9, i_10, i_11, i_12, i_13, i_14, i_15, i_16, i_17, i_18, i_19, i_20, i_21, i_22, i_23, i_24, i_25, i_26, i_27, i_28, i_29, i_30, i_31, i_32, i_33, i_34, i_35, i_36, i_37, i_38, i_39, i_40, i_41, i_42, i_43, i_44, i_45, i_48, i_49, i_57, i_59, i_60, i_61, i_62, i_64, i_97, i_110, i_122, i_123, i_125, i_126, i_127, i_160, i_255, i_300, i_400, hp, he, y0, y1, c1]
    · refine ⟨fun h => absurd h.2.1 c1, fun _ => ?_⟩
      simp (disch := omega) only [↓reduceIte, nI_leT, nI_leF, nI_ltT, nI_ltF, nI_eqT, nI_eqF, xin_T, nI_clampT, nI_add, nI_inc, pk_subT, xb_some, xval, xlet, mI_s, mI_n, mI_k, mI_2, mJ_1, mJ_s, mJ_n, mJ_k, mJ_2, mT_1, mT_2, mT_s, mT_n, mT_k, mT_3, mR_1, mR_2, mR_3, bI_0, bI_1, bI_n0, bI_n1, Bool.true_eq_false, Bool.false_eq_true, eq_self, i_0, i_1, i_2, i_3, i_4, i_5, i_6, i_7, i_8, i_9, i_10, i_11, i_12, i_13, i_14, i_15, i_16, i_17, i_18, i_19, i_20, i_21, i_22, i_23, i_24, i_25, i_26, i_27, i_28, i_29, i_30, i_31, i_32, i_33, i_34, i_35, i_36, i_37, i_38, i_39, i_40, i_41, i_42, i_43, i_44, i_45, i_48, i_49, i_57, i_59, i_60, i_61, i_62, i_64, i_97, i_110, i_122, i_123, i_125, i_126, i_127, i_160, i_255, i_300, i_400, hp, he, y0]
  · refine ⟨fun h => absurd h.1 c0, fun _ => ?_⟩
    simp (disch := omega) only [↓reduceIte, nI_leT, nI_leF, nI_ltT, nI_ltF, nI_eqT, nI_eqF, xin_T, nI_clampT, nI_add, nI_inc, pk_subT, xb_some, xval, xlet, mI_s, mI_n, mI_k, mI_2, mJ_1, mJ_s, mJ_n, mJ_k, mJ_2, mT_1, mT_2, mT_s, mT_n, mT_k, mT_3, mR_1, mR_2, mR_3, bI_0, bI_1, bI_n0, bI_n1, Bool.true_eq_false, Bool.false_eq_true, eq_self, i_0, i_1, i_2, i_3, i_4, i_5, i_6, i_7, i_8, i_9, i_10, i_11, i_12, i_13, i_14, i_15, i_16, i_17, i_18, i_19, i_20, i_21, i_22, i_23, i_24, i_25, i_26, i_27, i_28, i_29, i_30, i_31, i_32, i_33, i_34, i_35, i_36, i_37, i_38, i_39, i_40, i_41, i_42, i_43, i_44, i_45, i_48, i_49, i_57, i_59, i_60, i_61, i_62, i_64, i_97, i_110, i_122, i_123, i_125, i_126, i_127, i_160, i_255, i_300, i_400, hp, he]
theorem pSp_2 {t : List Nat} {p e a1 a2 a3 a4 a5 : Nat} : rSp t p e 2 a1 a2 a3 a4 a5 ↔ pSp t p e [a1, a2] := by
  unfold rSp pSp
  constructor
  · intro ⟨h0, h1, h2, _⟩
    refine ⟨h0, ?_⟩
    intro i hi
    have : i < 2 := hi
    match i, this with
    | 0, _ => exact h1
    | 1, _ => exact h2
  · intro ⟨h0, h⟩
    exact ⟨h0, h 0 (by simp), h 1 (by simp), fun h => by omega, fun h => by omega, fun h => by omega⟩
theorem pSp_3 {t : List Nat} {p e a1 a2 a3 a4 a5 : Nat} : rSp t p e 3 a1 a2 a3 a4 a5 ↔ pSp t p e [a1, a2, a3] := by
  unfold rSp pSp
  constructor
  · intro ⟨h0, h1, h2, h3, _⟩
    refine ⟨h0, ?_⟩
    intro i hi
    have : i < 3 := hi
    match i, this with
    | 0, _ => exact h1
    | 1, _ => exact h2
    | 2, _ => exact h3 (by omega)
  · intro ⟨h0, h⟩
    exact ⟨h0, h 0 (by simp), h 1 (by simp), fun _ => h 2 (by simp), fun h => by omega, fun h => by omega⟩
theorem pSp_4 {t : List Nat} {p e a1 a2 a3 a4 a5 : Nat} : rSp t p e 4 a1 a2 a3 a4 a5 ↔ pSp t p e [a1, a2, a3, a4] := by
  unfold rSp pSp
  constructor
  · intro ⟨h0, h1, h2, h3, h4, _⟩
    refine ⟨h0, ?_⟩
    intro i hi
    have : i < 4 := hi
    match i, this with
    | 0, _ => exact h1
    | 1, _ => exact h2
    | 2, _ => exact h3 (by omega)
    | 3, _ => exact h4 (by omega)
  · intro ⟨h0, h⟩
    exact ⟨h0, h 0 (by simp), h 1 (by simp), fun _ => h 2 (by simp), fun _ => h 3 (by simp), fun h => by omega⟩
theorem pSp_5 {t : List Nat} {p e a1 a2 a3 a4 a5 : Nat} : rSp t p e 5 a1 a2 a3 a4 a5 ↔ pSp t p e [a1, a2, a3, a4, a5] := by
  unfold rSp pSp
  constructor
  · intro ⟨h0, h1, h2, h3, h4, h5⟩
    refine ⟨h0, ?_⟩
    intro i hi
    have : i < 5 := hi
    match i, this with
    | 0, _ => exact h1
    | 1, _ => exact h2
    | 2, _ => exact h3 (by omega)
    | 3, _ => exact h4 (by omega)
    | 4, _ => exact h5 (by omega)
  · intro ⟨h0, h⟩
    exact ⟨h0, h 0 (by simp), h 1 (by simp), fun _ => h 2 (by simp), fun _ => h 3 (by simp), fun _ => h 4 (by simp)⟩
theorem r_word {M : xMem} {b k p e : Nat} {t : List Nat} (h : rTx M b t) (hk : k < 64) (hp : M.1 (b + 9) k = nI p) (he : M.1 (b + 10) k = nI e) (hpe : p ≤ e) (hel : e ≤ t.length) (hn : ∀ i, p ≤ i → i < e → pc t i ≠ 0) : f_N_word b (nI k) M = some (nI (rk (pKwOf (pOct t p e))), M) := by
  have kw := pKwOf_eq (t := t) (p := p) (e := e) h.2.2.2 hn
  have lt := pKwOf_lt (pOct t p e)
  generalize pKwOf (pOct t p e) = w at kw lt
  have s0 := r_spells (n := 3) (a1 := 108) (a2 := 101) (a3 := 116) (a4 := 0) (a5 := 0) h hk hp he hpe hel (by omega) (by omega) (by omega) (by omega) (by omega) (by omega) (by omega)
  have s1 := r_spells (n := 5) (a1 := 99) (a2 := 111) (a3 := 110) (a4 := 115) (a5 := 116) h hk hp he hpe hel (by omega) (by omega) (by omega) (by omega) (by omega) (by omega) (by omega)
  have s2 := r_spells (n := 3) (a1 := 118) (a2 := 97) (a3 := 114) (a4 := 0) (a5 := 0) h hk hp he hpe hel (by omega) (by omega) (by omega) (by omega) (by omega) (by omega) (by omega)
  have s3 := r_spells (n := 2) (a1 := 102) (a2 := 110) (a3 := 0) (a4 := 0) (a5 := 0) h hk hp he hpe hel (by omega) (by omega) (by omega) (by omega) (by omega) (by omega) (by omega)
  have s4 := r_spells (n := 2) (a1 := 105) (a2 := 102) (a3 := 0) (a4 := 0) (a5 := 0) h hk hp he hpe hel (by omega) (by omega) (by omega) (by omega) (by omega) (by omega) (by omega)
  have s5 := r_spells (n := 4) (a1 := 101) (a2 := 108) (a3 := 115) (a4 := 101) (a5 := 0) h hk hp he hpe hel (by omega) (by omega) (by omega) (by omega) (by omega) (by omega) (by omega)
  have s6 := r_spells (n := 5) (a1 := 119) (a2 := 104) (a3 := 105) (a4 := 108) (a5 := 101) h hk hp he hpe hel (by omega) (by omega) (by omega) (by omega) (by omega) (by omega) (by omega)
  rw [pSp_3] at s0 s2
  rw [pSp_5] at s1 s6
  rw [pSp_2] at s3 s4
  rw [pSp_4] at s5
  have k0 := kw 0 (by omega)
  have k1 := kw 1 (by omega)
  have k2 := kw 2 (by omega)
  have k3 := kw 3 (by omega)
  have k4 := kw 4 (by omega)
  have k5 := kw 5 (by omega)
  have k6 := kw 6 (by omega)
  have k7 := kw 7 (by omega)
  have z1 : ¬ ((1 : Int32) = 0) := by decide
  unfold f_N_word
  by_cases c0 : w = 0
  · have q : f_N_spells b (nI k) 3 108 101 116 0 0 M = some (1, M) := s0.1 (k0.mp c0)
    rw [q, xb_some, if_neg z1, c0]
    rfl
  have q0 : f_N_spells b (nI k) 3 108 101 116 0 0 M = some (0, M) := s0.2 (fun h => c0 (k0.mpr h))
  rw [q0, xb_some, if_pos rfl]
  by_cases c1 : w = 1
  · have q : f_N_spells b (nI k) 5 99 111 110 115 116 M = some (1, M) := s1.1 (k1.mp c1)
    rw [q, xb_some, if_neg z1, c1]
    rfl
  have q1 : f_N_spells b (nI k) 5 99 111 110 115 116 M = some (0, M) := s1.2 (fun h => c1 (k1.mpr h))
  rw [q1, xb_some, if_pos rfl]
  by_cases c2 : w = 2
  · have q : f_N_spells b (nI k) 3 118 97 114 0 0 M = some (1, M) := s2.1 (k2.mp c2)
    rw [q, xb_some, if_neg z1, c2]
    rfl
  have q2 : f_N_spells b (nI k) 3 118 97 114 0 0 M = some (0, M) := s2.2 (fun h => c2 (k2.mpr h))
  rw [q2, xb_some, if_pos rfl]
  by_cases c3 : w = 3
  · have q : f_N_spells b (nI k) 2 102 110 0 0 0 M = some (1, M) := s3.1 (k3.mp c3)
    rw [q, xb_some, if_neg z1, c3]
    rfl
  have q3 : f_N_spells b (nI k) 2 102 110 0 0 0 M = some (0, M) := s3.2 (fun h => c3 (k3.mpr h))
  rw [q3, xb_some, if_pos rfl]
  by_cases c4 : w = 4
  · have q : f_N_spells b (nI k) 2 105 102 0 0 0 M = some (1, M) := s4.1 (k4.mp c4)
    rw [q, xb_some, if_neg z1, c4]
    rfl
  have q4 : f_N_spells b (nI k) 2 105 102 0 0 0 M = some (0, M) := s4.2 (fun h => c4 (k4.mpr h))
  rw [q4, xb_some, if_pos rfl]
  by_cases c5 : w = 5
  · have q : f_N_spells b (nI k) 4 101 108 115 101 0 M = some (1, M) := s5.1 (k5.mp c5)
    rw [q, xb_some, if_neg z1, c5]
    rfl
  have q5 : f_N_spells b (nI k) 4 101 108 115 101 0 M = some (0, M) := s5.2 (fun h => c5 (k5.mpr h))
  rw [q5, xb_some, if_pos rfl]
  by_cases c6 : w = 6
  · have q : f_N_spells b (nI k) 5 119 104 105 108 101 M = some (1, M) := s6.1 (k6.mp c6)
    rw [q, xb_some, if_neg z1, c6]
    rfl
  have q6 : f_N_spells b (nI k) 5 119 104 105 108 101 M = some (0, M) := s6.2 (fun h => c6 (k6.mpr h))
  rw [q6, xb_some, if_pos rfl]
  obtain ⟨x1, x2, x3, x4⟩ := h
  unfold f_N_word_269 f_N_word_270
  have l7 : pT 7 = [114, 101, 116, 117, 114, 110] := rfl
  rw [l7] at k7
  by_cases l6 : e - p = 6
  · have y0 := x3 p (by omega)
    have y1 := x3 (p + 1) (by omega)
    have y2 := x3 (p + 2) (by omega)
    have y3 := x3 (p + 3) (by omega)
    have y4 := x3 (p + 4) (by omega)
    have y5 := x3 (p + 5) (by omega)
    have z0 := x4 p
    have z1 := x4 (p + 1)
    have z2 := x4 (p + 2)
    have z3 := x4 (p + 3)
    have z4 := x4 (p + 4)
    have z5 := x4 (p + 5)
    have i_114 : (114 : Int32) = nI 114 := rfl
    have i_101 : (101 : Int32) = nI 101 := rfl
    have i_116 : (116 : Int32) = nI 116 := rfl
    have i_117 : (117 : Int32) = nI 117 := rfl
    have ne : ∀ j, j < 6 → pc t (p + j) ≠ pc [114, 101, 116, 117, 114, 110] j → w = 23 := by
      intro j hj hne
      rcases lt with h | h
      · exact h
      · exact absurd (k7.mp (by omega) |>.2 j hj) hne
    by_cases d0 : pc t p = 114
    · by_cases d1 : pc t (p + 1) = 101
      · by_cases d2 : pc t (p + 2) = 116
        · by_cases d3 : pc t (p + 3) = 117
          · by_cases d4 : pc t (p + 4) = 114
            · by_cases d5 : pc t (p + 5) = 110
              · have w7 : w = 7 := k7.mpr ⟨l6, by
                  intro i hi
                  have : i < 6 := hi
                  match i, this with
                  | 0, _ => exact d0
                  | 1, _ => exact d1
                  | 2, _ => exact d2
                  | 3, _ => exact d3
                  | 4, _ => exact d4
                  | 5, _ => exact d5⟩
                rw [w7]
                simp (disch := omega) only [↓reduceIte, nI_leT, nI_leF, nI_ltT, nI_ltF, nI_eqT, nI_eqF, xin_T, nI_clampT, nI_add, nI_inc, pk_subT, xb_some, xval, xlet, mI_s, mI_n, mI_k, mI_2, mJ_1, mJ_s, mJ_n, mJ_k, mJ_2, mT_1, mT_2, mT_s, mT_n, mT_k, mT_3, mR_1, mR_2, mR_3, bI_0, bI_1, bI_n0, bI_n1, Bool.true_eq_false, Bool.false_eq_true, eq_self, i_0, i_1, i_2, i_3, i_4, i_5, i_6, i_7, i_8, i_9, i_10, i_11, i_12, i_13, i_14, i_15, i_16, i_17, i_18, i_19, i_20, i_21, i_22, i_23, i_24, i_25, i_26, i_27, i_28, i_29, i_30, i_31, i_32, i_33, i_34, i_35, i_36, i_37, i_38, i_39, i_40, i_41, i_42, i_43, i_44, i_45, i_48, i_49, i_57, i_59, i_60, i_61, i_62, i_64, i_97, i_110, i_122, i_123, i_125, i_126, i_127, i_160, i_255, i_300, i_400, hp, he, y0, y1, y2, y3, y4, y5, l6, d0, d1, d2, d3, d4, d5, i_114, i_101, i_116, i_117]
                rfl
              · have w7 := ne 5 (by omega) d5
                rw [w7]
                simp (disch := omega) only [↓reduceIte, nI_leT, nI_leF, nI_ltT, nI_ltF, nI_eqT, nI_eqF, xin_T, nI_clampT, nI_add, nI_inc, pk_subT, xb_some, xval, xlet, mI_s, mI_n, mI_k, mI_2, mJ_1, mJ_s, mJ_n, mJ_k, mJ_2, mT_1, mT_2, mT_s, mT_n, mT_k, mT_3, mR_1, mR_2, mR_3, bI_0, bI_1, bI_n0, bI_n1, Bool.true_eq_false, Bool.false_eq_true, eq_self, i_0, i_1, i_2, i_3, i_4, i_5, i_6, i_7, i_8, i_9, i_10, i_11, i_12, i_13, i_14, i_15, i_16, i_17, i_18, i_19, i_20, i_21, i_22, i_23, i_24, i_25, i_26, i_27, i_28, i_29, i_30, i_31, i_32, i_33, i_34, i_35, i_36, i_37, i_38, i_39, i_40, i_41, i_42, i_43, i_44, i_45, i_48, i_49, i_57, i_59, i_60, i_61, i_62, i_64, i_97, i_110, i_122, i_123, i_125, i_126, i_127, i_160, i_255, i_300, i_400, hp, he, y0, y1, y2, y3, y4, y5, l6, d0, d1, d2, d3, d4, i_114, i_101, i_116, i_117]
                rfl
            · have w7 := ne 4 (by omega) d4
              rw [w7]
              simp (disch := omega) only [↓reduceIte, nI_leT, nI_leF, nI_ltT, nI_ltF, nI_eqT, nI_eqF, xin_T, nI_clampT, nI_add, nI_inc, pk_subT, xb_some, xval, xlet, mI_s, mI_n, mI_k, mI_2, mJ_1, mJ_s, mJ_n, mJ_k, mJ_2, mT_1, mT_2, mT_s, mT_n, mT_k, mT_3, mR_1, mR_2, mR_3, bI_0, bI_1, bI_n0, bI_n1, Bool.true_eq_false, Bool.false_eq_true, eq_self, i_0, i_1, i_2, i_3, i_4, i_5, i_6, i_7, i_8, i_9, i_10, i_11, i_12, i_13, i_14, i_15, i_16, i_17, i_18, i_19, i_20, i_21, i_22, i_23, i_24, i_25, i_26, i_27, i_28, i_29, i_30, i_31, i_32, i_33, i_34, i_35, i_36, i_37, i_38, i_39, i_40, i_41, i_42, i_43, i_44, i_45, i_48, i_49, i_57, i_59, i_60, i_61, i_62, i_64, i_97, i_110, i_122, i_123, i_125, i_126, i_127, i_160, i_255, i_300, i_400, hp, he, y0, y1, y2, y3, y4, l6, d0, d1, d2, d3, i_114, i_101, i_116, i_117]
              rfl
          · have w7 := ne 3 (by omega) d3
            rw [w7]
            simp (disch := omega) only [↓reduceIte, nI_leT, nI_leF, nI_ltT, nI_ltF, nI_eqT, nI_eqF, xin_T, nI_clampT, nI_add, nI_inc, pk_subT, xb_some, xval, xlet, mI_s, mI_n, mI_k, mI_2, mJ_1, mJ_s, mJ_n, mJ_k, mJ_2, mT_1, mT_2, mT_s, mT_n, mT_k, mT_3, mR_1, mR_2, mR_3, bI_0, bI_1, bI_n0, bI_n1, Bool.true_eq_false, Bool.false_eq_true, eq_self, i_0, i_1, i_2, i_3, i_4, i_5, i_6, i_7, i_8, i_9, i_10, i_11, i_12, i_13, i_14, i_15, i_16, i_17, i_18, i_19, i_20, i_21, i_22, i_23, i_24, i_25, i_26, i_27, i_28, i_29, i_30, i_31, i_32, i_33, i_34, i_35, i_36, i_37, i_38, i_39, i_40, i_41, i_42, i_43, i_44, i_45, i_48, i_49, i_57, i_59, i_60, i_61, i_62, i_64, i_97, i_110, i_122, i_123, i_125, i_126, i_127, i_160, i_255, i_300, i_400, hp, he, y0, y1, y2, y3, l6, d0, d1, d2, i_114, i_101, i_116, i_117]
            rfl
        · have w7 := ne 2 (by omega) d2
          rw [w7]
          simp (disch := omega) only [↓reduceIte, nI_leT, nI_leF, nI_ltT, nI_ltF, nI_eqT, nI_eqF, xin_T, nI_clampT, nI_add, nI_inc, pk_subT, xb_some, xval, xlet, mI_s, mI_n, mI_k, mI_2, mJ_1, mJ_s, mJ_n, mJ_k, mJ_2, mT_1, mT_2, mT_s, mT_n, mT_k, mT_3, mR_1, mR_2, mR_3, bI_0, bI_1, bI_n0, bI_n1, Bool.true_eq_false, Bool.false_eq_true, eq_self, i_0, i_1, i_2, i_3, i_4, i_5, i_6, i_7, i_8, i_9, i_10, i_11, i_12, i_13, i_14, i_15, i_16, i_17, i_18, i_19, i_20, i_21, i_22, i_23, i_24, i_25, i_26, i_27, i_28, i_29, i_30, i_31, i_32, i_33, i_34, i_35, i_36, i_37, i_38, i_39, i_40, i_41, i_42, i_43, i_44, i_45, i_48, i_49, i_57, i_59, i_60, i_61, i_62, i_64, i_97, i_110, i_122, i_123, i_125, i_126, i_127, i_160, i_255, i_300, i_400, hp, he, y0, y1, y2, l6, d0, d1, i_114, i_101, i_116, i_117]
          rfl
      · have w7 := ne 1 (by omega) d1
        rw [w7]
        simp (disch := omega) only [↓reduceIte, nI_leT, nI_leF, nI_ltT, nI_ltF, nI_eqT, nI_eqF, xin_T, nI_clampT, nI_add, nI_inc, pk_subT, xb_some, xval, xlet, mI_s, mI_n, mI_k, mI_2, mJ_1, mJ_s, mJ_n, mJ_k, mJ_2, mT_1, mT_2, mT_s, mT_n, mT_k, mT_3, mR_1, mR_2, mR_3, bI_0, bI_1, bI_n0, bI_n1, Bool.true_eq_false, Bool.false_eq_true, eq_self, i_0, i_1, i_2, i_3, i_4, i_5, i_6, i_7, i_8, i_9, i_10, i_11, i_12, i_13, i_14, i_15, i_16, i_17, i_18, i_19, i_20, i_21, i_22, i_23, i_24, i_25, i_26, i_27, i_28, i_29, i_30, i_31, i_32, i_33, i_34, i_35, i_36, i_37, i_38, i_39, i_40, i_41, i_42, i_43, i_44, i_45, i_48, i_49, i_57, i_59, i_60, i_61, i_62, i_64, i_97, i_110, i_122, i_123, i_125, i_126, i_127, i_160, i_255, i_300, i_400, hp, he, y0, y1, l6, d0, i_114, i_101, i_116, i_117]
        rfl
    · have w7 := ne 0 (by omega) d0
      rw [w7]
      simp (disch := omega) only [↓reduceIte, nI_leT, nI_leF, nI_ltT, nI_ltF, nI_eqT, nI_eqF, xin_T, nI_clampT, nI_add, nI_inc, pk_subT, xb_some, xval, xlet, mI_s, mI_n, mI_k, mI_2, mJ_1, mJ_s, mJ_n, mJ_k, mJ_2, mT_1, mT_2, mT_s, mT_n, mT_k, mT_3, mR_1, mR_2, mR_3, bI_0, bI_1, bI_n0, bI_n1, Bool.true_eq_false, Bool.false_eq_true, eq_self, i_0, i_1, i_2, i_3, i_4, i_5, i_6, i_7, i_8, i_9, i_10, i_11, i_12, i_13, i_14, i_15, i_16, i_17, i_18, i_19, i_20, i_21, i_22, i_23, i_24, i_25, i_26, i_27, i_28, i_29, i_30, i_31, i_32, i_33, i_34, i_35, i_36, i_37, i_38, i_39, i_40, i_41, i_42, i_43, i_44, i_45, i_48, i_49, i_57, i_59, i_60, i_61, i_62, i_64, i_97, i_110, i_122, i_123, i_125, i_126, i_127, i_160, i_255, i_300, i_400, hp, he, y0, l6, i_114, i_101, i_116, i_117]
      rfl
  · have w7 : w = 23 := by
      rcases lt with h | h
      · exact h
      · exact absurd (k7.mp (by omega)).1 l6
    rw [w7]
    simp (disch := omega) only [↓reduceIte, nI_leT, nI_leF, nI_ltT, nI_ltF, nI_eqT, nI_eqF, xin_T, nI_clampT, nI_add, nI_inc, pk_subT, xb_some, xval, xlet, mI_s, mI_n, mI_k, mI_2, mJ_1, mJ_s, mJ_n, mJ_k, mJ_2, mT_1, mT_2, mT_s, mT_n, mT_k, mT_3, mR_1, mR_2, mR_3, bI_0, bI_1, bI_n0, bI_n1, Bool.true_eq_false, Bool.false_eq_true, eq_self, i_0, i_1, i_2, i_3, i_4, i_5, i_6, i_7, i_8, i_9, i_10, i_11, i_12, i_13, i_14, i_15, i_16, i_17, i_18, i_19, i_20, i_21, i_22, i_23, i_24, i_25, i_26, i_27, i_28, i_29, i_30, i_31, i_32, i_33, i_34, i_35, i_36, i_37, i_38, i_39, i_40, i_41, i_42, i_43, i_44, i_45, i_48, i_49, i_57, i_59, i_60, i_61, i_62, i_64, i_97, i_110, i_122, i_123, i_125, i_126, i_127, i_160, i_255, i_300, i_400, hp, he]
    rfl
/-- only ints at places in S have changed -/
def rF (S : Nat → Nat → Prop) (M M' : xMem) : Prop := M'.2 = M.2 ∧ ∀ a k, ¬ S a k → M'.1 a k = M.1 a k
theorem rF.rfl {S : Nat → Nat → Prop} {M : xMem} : rF S M M := ⟨_root_.rfl, fun _ _ _ => _root_.rfl⟩
theorem rF.trans {S : Nat → Nat → Prop} {M M' M'' : xMem} (h : rF S M M') (h2 : rF S M' M'') : rF S M M'' :=
  ⟨h2.1.trans h.1, fun a k hs => (h2.2 a k hs).trans (h.2 a k hs)⟩
theorem rF.mono {S S' : Nat → Nat → Prop} {M M' : xMem} (h : rF S M M') (hs : ∀ a k, S a k → S' a k) : rF S' M M' :=
  ⟨h.1, fun a k hn => h.2 a k (fun q => hn (hs a k q))⟩
theorem rF.I {S : Nat → Nat → Prop} {M : xMem} {a k : Nat} {v : Int32} (h : S a k) : rF S M (wI M a k v) := by
  refine ⟨_root_.rfl, fun a' k' hs => ?_⟩
  by_cases e : a' = a
  · subst e
    exact mI_k (fun e2 => hs (by rw [e2]; exact h))
  · exact mI_n e
theorem rF.at {S : Nat → Nat → Prop} {M M' : xMem} (h : rF S M M') {a : Nat} (ha : ∀ k, ¬ S a k) : M'.1 a = M.1 a := funext (fun k => h.2 a k (ha k))
/-- what cuts() may write -/
def rCutS (b : Nat) (a k : Nat) : Prop := (a = b ∧ k = 9) ∨ (b + 8 ≤ a ∧ a ≤ b + 10)
theorem rTx.cut {b : Nat} {M M' : xMem} {t : List Nat} (h : rTx M b t) (f : rF (rCutS b) M M') : rTx M' b t :=
  h.to (f.2 _ _ (by unfold rCutS; omega)) (f.at (by intro k; unfold rCutS; omega))
theorem r_quoted_9 {M : xMem} {b k p : Nat} {t : List Nat} (h : rTx M b t) (hk : k < 64) : ∀ (fuel v : Nat), v ≤ 161 → t.length - v < fuel → f_N_quoted_9 b (nI k) fuel (nI v) M = some (nI (if pc t (pScan pIn t v) = 39 then 3 else 27), wI M (b + 10) k (nI (pScan pIn t v + 1))) := by
  obtain ⟨h1, h2, h3, h4⟩ := h
  have fin : ∀ v, v ≤ 161 → f_N_quoted_45 b (nI k) (nI v) M = some (nI (if pc t v = 39 then 3 else 27), wI M (b + 10) k (nI (v + 1))) := by
    intro v hv
    have tx : rTx (wI M (b + 10) k (nI (v + 1))) b t := rTx.to (M := M) ⟨h1, h2, h3, h4⟩ (by simp (disch := omega) only [↓reduceIte, nI_leT, nI_leF, nI_ltT, nI_ltF, nI_eqT, nI_eqF, xin_T, nI_clampT, nI_add, nI_inc, pk_subT, xb_some, xval, xlet, mI_s, mI_n, mI_k, mI_2, mJ_1, mJ_s, mJ_n, mJ_k, mJ_2, mT_1, mT_2, mT_s, mT_n, mT_k, mT_3, mR_1, mR_2, mR_3, bI_0, bI_1, bI_n0, bI_n1, Bool.true_eq_false, Bool.false_eq_true, eq_self, i_0, i_1, i_2, i_3, i_4, i_5, i_6, i_7, i_8, i_9, i_10, i_11, i_12, i_13, i_14, i_15, i_16, i_17, i_18, i_19, i_20, i_21, i_22, i_23, i_24, i_25, i_26, i_27, i_28, i_29, i_30, i_31, i_32, i_33, i_34, i_35, i_36, i_37, i_38, i_39, i_40, i_41, i_42, i_43, i_44, i_45, i_48, i_49, i_57, i_59, i_60, i_61, i_62, i_64, i_97, i_110, i_122, i_123, i_125, i_126, i_127, i_160, i_255, i_300, i_400]) (wI_ne _ _ _ (by omega))
    have c := r_c tx (k := v) (by omega)
    have l := h4 v
    unfold f_N_quoted_45
    by_cases q : pc t v = 39
    · rw [q] at c
      rw [if_pos q]
      simp (disch := omega) only [↓reduceIte, nI_leT, nI_leF, nI_ltT, nI_ltF, nI_eqT, nI_eqF, xin_T, nI_clampT, nI_add, nI_inc, pk_subT, xb_some, xval, xlet, mI_s, mI_n, mI_k, mI_2, mJ_1, mJ_s, mJ_n, mJ_k, mJ_2, mT_1, mT_2, mT_s, mT_n, mT_k, mT_3, mR_1, mR_2, mR_3, bI_0, bI_1, bI_n0, bI_n1, Bool.true_eq_false, Bool.false_eq_true, eq_self, i_0, i_1, i_2, i_3, i_4, i_5, i_6, i_7, i_8, i_9, i_10, i_11, i_12, i_13, i_14, i_15, i_16, i_17, i_18, i_19, i_20, i_21, i_22, i_23, i_24, i_25, i_26, i_27, i_28, i_29, i_30, i_31, i_32, i_33, i_34, i_35, i_36, i_37, i_38, i_39, i_40, i_41, i_42, i_43, i_44, i_45, i_48, i_49, i_57, i_59, i_60, i_61, i_62, i_64, i_97, i_110, i_122, i_123, i_125, i_126, i_127, i_160, i_255, i_300, i_400, c]
    · rw [if_neg q]
      simp (disch := omega) only [↓reduceIte, nI_leT, nI_leF, nI_ltT, nI_ltF, nI_eqT, nI_eqF, xin_T, nI_clampT, nI_add, nI_inc, pk_subT, xb_some, xval, xlet, mI_s, mI_n, mI_k, mI_2, mJ_1, mJ_s, mJ_n, mJ_k, mJ_2, mT_1, mT_2, mT_s, mT_n, mT_k, mT_3, mR_1, mR_2, mR_3, bI_0, bI_1, bI_n0, bI_n1, Bool.true_eq_false, Bool.false_eq_true, eq_self, i_0, i_1, i_2, i_3, i_4, i_5, i_6, i_7, i_8, i_9, i_10, i_11, i_12, i_13, i_14, i_15, i_16, i_17, i_18, i_19, i_20, i_21, i_22, i_23, i_24, i_25, i_26, i_27, i_28, i_29, i_30, i_31, i_32, i_33, i_34, i_35, i_36, i_37, i_38, i_39, i_40, i_41, i_42, i_43, i_44, i_45, i_48, i_49, i_57, i_59, i_60, i_61, i_62, i_64, i_97, i_110, i_122, i_123, i_125, i_126, i_127, i_160, i_255, i_300, i_400, c]
  intro fuel
  induction fuel with
  | zero => intro v hv hf; omega
  | succ f ih =>
    intro v hv hf
    rw [f_N_quoted_9]
    by_cases c : t.length ≤ v
    · rw [pScan_end c]
      simp (disch := omega) only [↓reduceIte, nI_leT, nI_leF, nI_ltT, nI_ltF, nI_eqT, nI_eqF, xin_T, nI_clampT, nI_add, nI_inc, pk_subT, xb_some, xval, xlet, mI_s, mI_n, mI_k, mI_2, mJ_1, mJ_s, mJ_n, mJ_k, mJ_2, mT_1, mT_2, mT_s, mT_n, mT_k, mT_3, mR_1, mR_2, mR_3, bI_0, bI_1, bI_n0, bI_n1, Bool.true_eq_false, Bool.false_eq_true, eq_self, i_0, i_1, i_2, i_3, i_4, i_5, i_6, i_7, i_8, i_9, i_10, i_11, i_12, i_13, i_14, i_15, i_16, i_17, i_18, i_19, i_20, i_21, i_22, i_23, i_24, i_25, i_26, i_27, i_28, i_29, i_30, i_31, i_32, i_33, i_34, i_35, i_36, i_37, i_38, i_39, i_40, i_41, i_42, i_43, i_44, i_45, i_48, i_49, i_57, i_59, i_60, i_61, i_62, i_64, i_97, i_110, i_122, i_123, i_125, i_126, i_127, i_160, i_255, i_300, i_400, h1, fin v hv]
    · have c' : v < t.length := by omega
      have y := h3 v c'
      have z := h4 v
      by_cases c1 : pc t v = 39
      · rw [pScan_stop c' (by unfold pIn; rw [c1]; rfl)]
        simp (disch := omega) only [↓reduceIte, nI_leT, nI_leF, nI_ltT, nI_ltF, nI_eqT, nI_eqF, xin_T, nI_clampT, nI_add, nI_inc, pk_subT, xb_some, xval, xlet, mI_s, mI_n, mI_k, mI_2, mJ_1, mJ_s, mJ_n, mJ_k, mJ_2, mT_1, mT_2, mT_s, mT_n, mT_k, mT_3, mR_1, mR_2, mR_3, bI_0, bI_1, bI_n0, bI_n1, Bool.true_eq_false, Bool.false_eq_true, eq_self, i_0, i_1, i_2, i_3, i_4, i_5, i_6, i_7, i_8, i_9, i_10, i_11, i_12, i_13, i_14, i_15, i_16, i_17, i_18, i_19, i_20, i_21, i_22, i_23, i_24, i_25, i_26, i_27, i_28, i_29, i_30, i_31, i_32, i_33, i_34, i_35, i_36, i_37, i_38, i_39, i_40, i_41, i_42, i_43, i_44, i_45, i_48, i_49, i_57, i_59, i_60, i_61, i_62, i_64, i_97, i_110, i_122, i_123, i_125, i_126, i_127, i_160, i_255, i_300, i_400, h1, y, c1, fin v hv]
      · by_cases c2 : pc t v = 10
        · rw [pScan_stop c' (by unfold pIn; rw [c2]; rfl)]
          simp (disch := omega) only [↓reduceIte, nI_leT, nI_leF, nI_ltT, nI_ltF, nI_eqT, nI_eqF, xin_T, nI_clampT, nI_add, nI_inc, pk_subT, xb_some, xval, xlet, mI_s, mI_n, mI_k, mI_2, mJ_1, mJ_s, mJ_n, mJ_k, mJ_2, mT_1, mT_2, mT_s, mT_n, mT_k, mT_3, mR_1, mR_2, mR_3, bI_0, bI_1, bI_n0, bI_n1, Bool.true_eq_false, Bool.false_eq_true, eq_self, i_0, i_1, i_2, i_3, i_4, i_5, i_6, i_7, i_8, i_9, i_10, i_11, i_12, i_13, i_14, i_15, i_16, i_17, i_18, i_19, i_20, i_21, i_22, i_23, i_24, i_25, i_26, i_27, i_28, i_29, i_30, i_31, i_32, i_33, i_34, i_35, i_36, i_37, i_38, i_39, i_40, i_41, i_42, i_43, i_44, i_45, i_48, i_49, i_57, i_59, i_60, i_61, i_62, i_64, i_97, i_110, i_122, i_123, i_125, i_126, i_127, i_160, i_255, i_300, i_400, h1, y, c2, fin v hv]
        · rw [pScan_go c' (by unfold pIn; simp [c1, c2])]
          have ih' := ih (v + 1) (by omega) (by omega)
          simp (disch := omega) only [↓reduceIte, nI_leT, nI_leF, nI_ltT, nI_ltF, nI_eqT, nI_eqF, xin_T, nI_clampT, nI_add, nI_inc, pk_subT, xb_some, xval, xlet, mI_s, mI_n, mI_k, mI_2, mJ_1, mJ_s, mJ_n, mJ_k, mJ_2, mT_1, mT_2, mT_s, mT_n, mT_k, mT_3, mR_1, mR_2, mR_3, bI_0, bI_1, bI_n0, bI_n1, Bool.true_eq_false, Bool.false_eq_true, eq_self, i_0, i_1, i_2, i_3, i_4, i_5, i_6, i_7, i_8, i_9, i_10, i_11, i_12, i_13, i_14, i_15, i_16, i_17, i_18, i_19, i_20, i_21, i_22, i_23, i_24, i_25, i_26, i_27, i_28, i_29, i_30, i_31, i_32, i_33, i_34, i_35, i_36, i_37, i_38, i_39, i_40, i_41, i_42, i_43, i_44, i_45, i_48, i_49, i_57, i_59, i_60, i_61, i_62, i_64, i_97, i_110, i_122, i_123, i_125, i_126, i_127, i_160, i_255, i_300, i_400, h1, y]
          exact ih'
theorem r_sign {M : xMem} {b k p : Nat} {t : List Nat} (h : rTx M b t) (hk : k < 64) (hp : M.1 (b + 9) k = nI p) (hpl : p < t.length) : ∃ q, f_N_sign b (nI k) M = some (nI (rk (pSign t p)), wI (wI M (b + 10) k (nI (p + 1))) (b + 10) k (nI q)) ∧ (pSign t p ≠ 27 → q = p + (pT (pSign t p)).length) ∧ q ≤ 200 := by
  obtain ⟨h1, h2, h3, h4⟩ := h
  have y := h3 p hpl
  have z := h4 p
  have tx : rTx (wI M (b + 10) k (nI (p + 1))) b t := rTx.to (M := M) ⟨h1, h2, h3, h4⟩ (by simp (disch := omega) only [↓reduceIte, nI_leT, nI_leF, nI_ltT, nI_ltF, nI_eqT, nI_eqF, xin_T, nI_clampT, nI_add, nI_inc, pk_subT, xb_some, xval, xlet, mI_s, mI_n, mI_k, mI_2, mJ_1, mJ_s, mJ_n, mJ_k, mJ_2, mT_1, mT_2, mT_s, mT_n, mT_k, mT_3, mR_1, mR_2, mR_3, bI_0, bI_1, bI_n0, bI_n1, Bool.true_eq_false, Bool.false_eq_true, eq_self, i_0, i_1, i_2, i_3, i_4, i_5, i_6, i_7, i_8, i_9, i_10, i_11, i_12, i_13, i_14, i_15, i_16, i_17, i_18, i_19, i_20, i_21, i_22, i_23, i_24, i_25, i_26, i_27, i_28, i_29, i_30, i_31, i_32, i_33, i_34, i_35, i_36, i_37, i_38, i_39, i_40, i_41, i_42, i_43, i_44, i_45, i_48, i_49, i_57, i_59, i_60, i_61, i_62, i_64, i_97, i_110, i_122, i_123, i_125, i_126, i_127, i_160, i_255, i_300, i_400]) (wI_ne _ _ _ (by omega))
  have tw : wI (wI M (b + 10) k (nI (p + 1))) (b + 10) k (nI (p + 1)) = wI M (b + 10) k (nI (p + 1)) := by
    unfold wI
    refine Prod.ext ?_ rfl
    funext a j
    unfold va_up upd
    by_cases e : a = b + 10
    · subst e
      simp only [if_pos]
      by_cases e2 : j = k
      · simp [e2]
      · simp [e2]
    · simp [e]
  rw [pSign_eq]
  unfold f_N_sign
  have i_123 : (123 : Int32) = nI 123 := rfl
  by_cases c0 : pc t p = 61
  · have n1 := r_c tx (k := p + 1) (by omega)
    have n2 := r_c tx (k := p + 2) (by omega)
    have z1 := h4 (p + 1)
    have z2 := h4 (p + 2)
    rw [c0] at y
    unfold f_N_sign_174 f_N_sign_175
    by_cases c1 : pc t (p + 1) = 61
    · rw [c1] at n1
      by_cases c2 : pc t (p + 2) = 61
      · rw [c2] at n2
        refine ⟨p + 3, ?_, fun _ => ?_, by omega⟩
        · rw [if_pos c0, if_pos c1, if_pos c2]
          simp (disch := omega) only [↓reduceIte, nI_leT, nI_leF, nI_ltT, nI_ltF, nI_eqT, nI_eqF, xin_T, nI_clampT, nI_add, nI_inc, pk_subT, xb_some, xval, xlet, mI_s, mI_n, mI_k, mI_2, mJ_1, mJ_s, mJ_n, mJ_k, mJ_2, mT_1, mT_2, mT_s, mT_n, mT_k, mT_3, mR_1, mR_2, mR_3, bI_0, bI_1, bI_n0, bI_n1, Bool.true_eq_false, Bool.false_eq_true, eq_self, i_0, i_1, i_2, i_3, i_4, i_5, i_6, i_7, i_8, i_9, i_10, i_11, i_12, i_13, i_14, i_15, i_16, i_17, i_18, i_19, i_20, i_21, i_22, i_23, i_24, i_25, i_26, i_27, i_28, i_29, i_30, i_31, i_32, i_33, i_34, i_35, i_36, i_37, i_38, i_39, i_40, i_41, i_42, i_43, i_44, i_45, i_48, i_49, i_57, i_59, i_60, i_61, i_62, i_64, i_97, i_110, i_122, i_123, i_125, i_126, i_127, i_160, i_255, i_300, i_400, hp, y, n1, n2]
          rfl
        · rw [if_pos c0, if_pos c1, if_pos c2]; rfl
      · refine ⟨p + 2, ?_, fun _ => ?_, by omega⟩
        · rw [if_pos c0, if_pos c1, if_neg c2]
          simp (disch := omega) only [↓reduceIte, nI_leT, nI_leF, nI_ltT, nI_ltF, nI_eqT, nI_eqF, xin_T, nI_clampT, nI_add, nI_inc, pk_subT, xb_some, xval, xlet, mI_s, mI_n, mI_k, mI_2, mJ_1, mJ_s, mJ_n, mJ_k, mJ_2, mT_1, mT_2, mT_s, mT_n, mT_k, mT_3, mR_1, mR_2, mR_3, bI_0, bI_1, bI_n0, bI_n1, Bool.true_eq_false, Bool.false_eq_true, eq_self, i_0, i_1, i_2, i_3, i_4, i_5, i_6, i_7, i_8, i_9, i_10, i_11, i_12, i_13, i_14, i_15, i_16, i_17, i_18, i_19, i_20, i_21, i_22, i_23, i_24, i_25, i_26, i_27, i_28, i_29, i_30, i_31, i_32, i_33, i_34, i_35, i_36, i_37, i_38, i_39, i_40, i_41, i_42, i_43, i_44, i_45, i_48, i_49, i_57, i_59, i_60, i_61, i_62, i_64, i_97, i_110, i_122, i_123, i_125, i_126, i_127, i_160, i_255, i_300, i_400, hp, y, n1, n2]
          rfl
        · rw [if_pos c0, if_pos c1, if_neg c2]; rfl
    · refine ⟨p + 1, ?_, fun _ => ?_, by omega⟩
      · rw [if_pos c0, if_neg c1, tw]
        simp (disch := omega) only [↓reduceIte, nI_leT, nI_leF, nI_ltT, nI_ltF, nI_eqT, nI_eqF, xin_T, nI_clampT, nI_add, nI_inc, pk_subT, xb_some, xval, xlet, mI_s, mI_n, mI_k, mI_2, mJ_1, mJ_s, mJ_n, mJ_k, mJ_2, mT_1, mT_2, mT_s, mT_n, mT_k, mT_3, mR_1, mR_2, mR_3, bI_0, bI_1, bI_n0, bI_n1, Bool.true_eq_false, Bool.false_eq_true, eq_self, i_0, i_1, i_2, i_3, i_4, i_5, i_6, i_7, i_8, i_9, i_10, i_11, i_12, i_13, i_14, i_15, i_16, i_17, i_18, i_19, i_20, i_21, i_22, i_23, i_24, i_25, i_26, i_27, i_28, i_29, i_30, i_31, i_32, i_33, i_34, i_35, i_36, i_37, i_38, i_39, i_40, i_41, i_42, i_43, i_44, i_45, i_48, i_49, i_57, i_59, i_60, i_61, i_62, i_64, i_97, i_110, i_122, i_123, i_125, i_126, i_127, i_160, i_255, i_300, i_400, hp, y, n1]
        rfl
      · rw [if_pos c0, if_neg c1]; rfl
  · refine ⟨p + 1, ?_, ?_, by omega⟩
    · rw [tw, if_neg c0]
      by_cases d1 : pc t p = 43
      · rw [d1] at y; rw [if_pos d1]; simp (disch := omega) only [↓reduceIte, nI_leT, nI_leF, nI_ltT, nI_ltF, nI_eqT, nI_eqF, xin_T, nI_clampT, nI_add, nI_inc, pk_subT, xb_some, xval, xlet, mI_s, mI_n, mI_k, mI_2, mJ_1, mJ_s, mJ_n, mJ_k, mJ_2, mT_1, mT_2, mT_s, mT_n, mT_k, mT_3, mR_1, mR_2, mR_3, bI_0, bI_1, bI_n0, bI_n1, Bool.true_eq_false, Bool.false_eq_true, eq_self, i_0, i_1, i_2, i_3, i_4, i_5, i_6, i_7, i_8, i_9, i_10, i_11, i_12, i_13, i_14, i_15, i_16, i_17, i_18, i_19, i_20, i_21, i_22, i_23, i_24, i_25, i_26, i_27, i_28, i_29, i_30, i_31, i_32, i_33, i_34, i_35, i_36, i_37, i_38, i_39, i_40, i_41, i_42, i_43, i_44, i_45, i_48, i_49, i_57, i_59, i_60, i_61, i_62, i_64, i_97, i_110, i_122, i_123, i_125, i_126, i_127, i_160, i_255, i_300, i_400, hp, y]; rfl
      rw [if_neg d1]
      by_cases d2 : pc t p = 45
      · rw [d2] at y; rw [if_pos d2]; simp (disch := omega) only [↓reduceIte, nI_leT, nI_leF, nI_ltT, nI_ltF, nI_eqT, nI_eqF, xin_T, nI_clampT, nI_add, nI_inc, pk_subT, xb_some, xval, xlet, mI_s, mI_n, mI_k, mI_2, mJ_1, mJ_s, mJ_n, mJ_k, mJ_2, mT_1, mT_2, mT_s, mT_n, mT_k, mT_3, mR_1, mR_2, mR_3, bI_0, bI_1, bI_n0, bI_n1, Bool.true_eq_false, Bool.false_eq_true, eq_self, i_0, i_1, i_2, i_3, i_4, i_5, i_6, i_7, i_8, i_9, i_10, i_11, i_12, i_13, i_14, i_15, i_16, i_17, i_18, i_19, i_20, i_21, i_22, i_23, i_24, i_25, i_26, i_27, i_28, i_29, i_30, i_31, i_32, i_33, i_34, i_35, i_36, i_37, i_38, i_39, i_40, i_41, i_42, i_43, i_44, i_45, i_48, i_49, i_57, i_59, i_60, i_61, i_62, i_64, i_97, i_110, i_122, i_123, i_125, i_126, i_127, i_160, i_255, i_300, i_400, hp, y]; rfl
      rw [if_neg d2]
      by_cases d3 : pc t p = 42
      · rw [d3] at y; rw [if_pos d3]; simp (disch := omega) only [↓reduceIte, nI_leT, nI_leF, nI_ltT, nI_ltF, nI_eqT, nI_eqF, xin_T, nI_clampT, nI_add, nI_inc, pk_subT, xb_some, xval, xlet, mI_s, mI_n, mI_k, mI_2, mJ_1, mJ_s, mJ_n, mJ_k, mJ_2, mT_1, mT_2, mT_s, mT_n, mT_k, mT_3, mR_1, mR_2, mR_3, bI_0, bI_1, bI_n0, bI_n1, Bool.true_eq_false, Bool.false_eq_true, eq_self, i_0, i_1, i_2, i_3, i_4, i_5, i_6, i_7, i_8, i_9, i_10, i_11, i_12, i_13, i_14, i_15, i_16, i_17, i_18, i_19, i_20, i_21, i_22, i_23, i_24, i_25, i_26, i_27, i_28, i_29, i_30, i_31, i_32, i_33, i_34, i_35, i_36, i_37, i_38, i_39, i_40, i_41, i_42, i_43, i_44, i_45, i_48, i_49, i_57, i_59, i_60, i_61, i_62, i_64, i_97, i_110, i_122, i_123, i_125, i_126, i_127, i_160, i_255, i_300, i_400, hp, y]; rfl
      rw [if_neg d3]
      by_cases d4 : pc t p = 60
      · rw [d4] at y; rw [if_pos d4]; simp (disch := omega) only [↓reduceIte, nI_leT, nI_leF, nI_ltT, nI_ltF, nI_eqT, nI_eqF, xin_T, nI_clampT, nI_add, nI_inc, pk_subT, xb_some, xval, xlet, mI_s, mI_n, mI_k, mI_2, mJ_1, mJ_s, mJ_n, mJ_k, mJ_2, mT_1, mT_2, mT_s, mT_n, mT_k, mT_3, mR_1, mR_2, mR_3, bI_0, bI_1, bI_n0, bI_n1, Bool.true_eq_false, Bool.false_eq_true, eq_self, i_0, i_1, i_2, i_3, i_4, i_5, i_6, i_7, i_8, i_9, i_10, i_11, i_12, i_13, i_14, i_15, i_16, i_17, i_18, i_19, i_20, i_21, i_22, i_23, i_24, i_25, i_26, i_27, i_28, i_29, i_30, i_31, i_32, i_33, i_34, i_35, i_36, i_37, i_38, i_39, i_40, i_41, i_42, i_43, i_44, i_45, i_48, i_49, i_57, i_59, i_60, i_61, i_62, i_64, i_97, i_110, i_122, i_123, i_125, i_126, i_127, i_160, i_255, i_300, i_400, hp, y]; rfl
      rw [if_neg d4]
      by_cases d5 : pc t p = 33
      · rw [d5] at y; rw [if_pos d5]; simp (disch := omega) only [↓reduceIte, nI_leT, nI_leF, nI_ltT, nI_ltF, nI_eqT, nI_eqF, xin_T, nI_clampT, nI_add, nI_inc, pk_subT, xb_some, xval, xlet, mI_s, mI_n, mI_k, mI_2, mJ_1, mJ_s, mJ_n, mJ_k, mJ_2, mT_1, mT_2, mT_s, mT_n, mT_k, mT_3, mR_1, mR_2, mR_3, bI_0, bI_1, bI_n0, bI_n1, Bool.true_eq_false, Bool.false_eq_true, eq_self, i_0, i_1, i_2, i_3, i_4, i_5, i_6, i_7, i_8, i_9, i_10, i_11, i_12, i_13, i_14, i_15, i_16, i_17, i_18, i_19, i_20, i_21, i_22, i_23, i_24, i_25, i_26, i_27, i_28, i_29, i_30, i_31, i_32, i_33, i_34, i_35, i_36, i_37, i_38, i_39, i_40, i_41, i_42, i_43, i_44, i_45, i_48, i_49, i_57, i_59, i_60, i_61, i_62, i_64, i_97, i_110, i_122, i_123, i_125, i_126, i_127, i_160, i_255, i_300, i_400, hp, y]; rfl
      rw [if_neg d5]
      by_cases d6 : pc t p = 40
      · rw [d6] at y; rw [if_pos d6]; simp (disch := omega) only [↓reduceIte, nI_leT, nI_leF, nI_ltT, nI_ltF, nI_eqT, nI_eqF, xin_T, nI_clampT, nI_add, nI_inc, pk_subT, xb_some, xval, xlet, mI_s, mI_n, mI_k, mI_2, mJ_1, mJ_s, mJ_n, mJ_k, mJ_2, mT_1, mT_2, mT_s, mT_n, mT_k, mT_3, mR_1, mR_2, mR_3, bI_0, bI_1, bI_n0, bI_n1, Bool.true_eq_false, Bool.false_eq_true, eq_self, i_0, i_1, i_2, i_3, i_4, i_5, i_6, i_7, i_8, i_9, i_10, i_11, i_12, i_13, i_14, i_15, i_16, i_17, i_18, i_19, i_20, i_21, i_22, i_23, i_24, i_25, i_26, i_27, i_28, i_29, i_30, i_31, i_32, i_33, i_34, i_35, i_36, i_37, i_38, i_39, i_40, i_41, i_42, i_43, i_44, i_45, i_48, i_49, i_57, i_59, i_60, i_61, i_62, i_64, i_97, i_110, i_122, i_123, i_125, i_126, i_127, i_160, i_255, i_300, i_400, hp, y]; rfl
      rw [if_neg d6]
      by_cases d7 : pc t p = 41
      · rw [d7] at y; rw [if_pos d7]; simp (disch := omega) only [↓reduceIte, nI_leT, nI_leF, nI_ltT, nI_ltF, nI_eqT, nI_eqF, xin_T, nI_clampT, nI_add, nI_inc, pk_subT, xb_some, xval, xlet, mI_s, mI_n, mI_k, mI_2, mJ_1, mJ_s, mJ_n, mJ_k, mJ_2, mT_1, mT_2, mT_s, mT_n, mT_k, mT_3, mR_1, mR_2, mR_3, bI_0, bI_1, bI_n0, bI_n1, Bool.true_eq_false, Bool.false_eq_true, eq_self, i_0, i_1, i_2, i_3, i_4, i_5, i_6, i_7, i_8, i_9, i_10, i_11, i_12, i_13, i_14, i_15, i_16, i_17, i_18, i_19, i_20, i_21, i_22, i_23, i_24, i_25, i_26, i_27, i_28, i_29, i_30, i_31, i_32, i_33, i_34, i_35, i_36, i_37, i_38, i_39, i_40, i_41, i_42, i_43, i_44, i_45, i_48, i_49, i_57, i_59, i_60, i_61, i_62, i_64, i_97, i_110, i_122, i_123, i_125, i_126, i_127, i_160, i_255, i_300, i_400, hp, y]; rfl
      rw [if_neg d7]
      by_cases d8 : pc t p = 123
      · rw [d8] at y; rw [if_pos d8]; simp (disch := omega) only [↓reduceIte, nI_leT, nI_leF, nI_ltT, nI_ltF, nI_eqT, nI_eqF, xin_T, nI_clampT, nI_add, nI_inc, pk_subT, xb_some, xval, xlet, mI_s, mI_n, mI_k, mI_2, mJ_1, mJ_s, mJ_n, mJ_k, mJ_2, mT_1, mT_2, mT_s, mT_n, mT_k, mT_3, mR_1, mR_2, mR_3, bI_0, bI_1, bI_n0, bI_n1, Bool.true_eq_false, Bool.false_eq_true, eq_self, i_0, i_1, i_2, i_3, i_4, i_5, i_6, i_7, i_8, i_9, i_10, i_11, i_12, i_13, i_14, i_15, i_16, i_17, i_18, i_19, i_20, i_21, i_22, i_23, i_24, i_25, i_26, i_27, i_28, i_29, i_30, i_31, i_32, i_33, i_34, i_35, i_36, i_37, i_38, i_39, i_40, i_41, i_42, i_43, i_44, i_45, i_48, i_49, i_57, i_59, i_60, i_61, i_62, i_64, i_97, i_110, i_122, i_123, i_125, i_126, i_127, i_160, i_255, i_300, i_400, hp, y]; rfl
      rw [if_neg d8]
      by_cases d9 : pc t p = 125
      · rw [d9] at y; rw [if_pos d9]; simp (disch := omega) only [↓reduceIte, nI_leT, nI_leF, nI_ltT, nI_ltF, nI_eqT, nI_eqF, xin_T, nI_clampT, nI_add, nI_inc, pk_subT, xb_some, xval, xlet, mI_s, mI_n, mI_k, mI_2, mJ_1, mJ_s, mJ_n, mJ_k, mJ_2, mT_1, mT_2, mT_s, mT_n, mT_k, mT_3, mR_1, mR_2, mR_3, bI_0, bI_1, bI_n0, bI_n1, Bool.true_eq_false, Bool.false_eq_true, eq_self, i_0, i_1, i_2, i_3, i_4, i_5, i_6, i_7, i_8, i_9, i_10, i_11, i_12, i_13, i_14, i_15, i_16, i_17, i_18, i_19, i_20, i_21, i_22, i_23, i_24, i_25, i_26, i_27, i_28, i_29, i_30, i_31, i_32, i_33, i_34, i_35, i_36, i_37, i_38, i_39, i_40, i_41, i_42, i_43, i_44, i_45, i_48, i_49, i_57, i_59, i_60, i_61, i_62, i_64, i_97, i_110, i_122, i_123, i_125, i_126, i_127, i_160, i_255, i_300, i_400, hp, y]; rfl
      rw [if_neg d9]
      by_cases d10 : pc t p = 59
      · rw [d10] at y; rw [if_pos d10]; simp (disch := omega) only [↓reduceIte, nI_leT, nI_leF, nI_ltT, nI_ltF, nI_eqT, nI_eqF, xin_T, nI_clampT, nI_add, nI_inc, pk_subT, xb_some, xval, xlet, mI_s, mI_n, mI_k, mI_2, mJ_1, mJ_s, mJ_n, mJ_k, mJ_2, mT_1, mT_2, mT_s, mT_n, mT_k, mT_3, mR_1, mR_2, mR_3, bI_0, bI_1, bI_n0, bI_n1, Bool.true_eq_false, Bool.false_eq_true, eq_self, i_0, i_1, i_2, i_3, i_4, i_5, i_6, i_7, i_8, i_9, i_10, i_11, i_12, i_13, i_14, i_15, i_16, i_17, i_18, i_19, i_20, i_21, i_22, i_23, i_24, i_25, i_26, i_27, i_28, i_29, i_30, i_31, i_32, i_33, i_34, i_35, i_36, i_37, i_38, i_39, i_40, i_41, i_42, i_43, i_44, i_45, i_48, i_49, i_57, i_59, i_60, i_61, i_62, i_64, i_97, i_110, i_122, i_123, i_125, i_126, i_127, i_160, i_255, i_300, i_400, hp, y]; rfl
      rw [if_neg d10]
      by_cases d11 : pc t p = 44
      · rw [d11] at y; rw [if_pos d11]; simp (disch := omega) only [↓reduceIte, nI_leT, nI_leF, nI_ltT, nI_ltF, nI_eqT, nI_eqF, xin_T, nI_clampT, nI_add, nI_inc, pk_subT, xb_some, xval, xlet, mI_s, mI_n, mI_k, mI_2, mJ_1, mJ_s, mJ_n, mJ_k, mJ_2, mT_1, mT_2, mT_s, mT_n, mT_k, mT_3, mR_1, mR_2, mR_3, bI_0, bI_1, bI_n0, bI_n1, Bool.true_eq_false, Bool.false_eq_true, eq_self, i_0, i_1, i_2, i_3, i_4, i_5, i_6, i_7, i_8, i_9, i_10, i_11, i_12, i_13, i_14, i_15, i_16, i_17, i_18, i_19, i_20, i_21, i_22, i_23, i_24, i_25, i_26, i_27, i_28, i_29, i_30, i_31, i_32, i_33, i_34, i_35, i_36, i_37, i_38, i_39, i_40, i_41, i_42, i_43, i_44, i_45, i_48, i_49, i_57, i_59, i_60, i_61, i_62, i_64, i_97, i_110, i_122, i_123, i_125, i_126, i_127, i_160, i_255, i_300, i_400, hp, y]; rfl
      rw [if_neg d11]
      by_cases d12 : pc t p = 64
      · rw [d12] at y; rw [if_pos d12]; simp (disch := omega) only [↓reduceIte, nI_leT, nI_leF, nI_ltT, nI_ltF, nI_eqT, nI_eqF, xin_T, nI_clampT, nI_add, nI_inc, pk_subT, xb_some, xval, xlet, mI_s, mI_n, mI_k, mI_2, mJ_1, mJ_s, mJ_n, mJ_k, mJ_2, mT_1, mT_2, mT_s, mT_n, mT_k, mT_3, mR_1, mR_2, mR_3, bI_0, bI_1, bI_n0, bI_n1, Bool.true_eq_false, Bool.false_eq_true, eq_self, i_0, i_1, i_2, i_3, i_4, i_5, i_6, i_7, i_8, i_9, i_10, i_11, i_12, i_13, i_14, i_15, i_16, i_17, i_18, i_19, i_20, i_21, i_22, i_23, i_24, i_25, i_26, i_27, i_28, i_29, i_30, i_31, i_32, i_33, i_34, i_35, i_36, i_37, i_38, i_39, i_40, i_41, i_42, i_43, i_44, i_45, i_48, i_49, i_57, i_59, i_60, i_61, i_62, i_64, i_97, i_110, i_122, i_123, i_125, i_126, i_127, i_160, i_255, i_300, i_400, hp, y]; rfl
      rw [if_neg d12]
      simp (disch := omega) only [↓reduceIte, nI_leT, nI_leF, nI_ltT, nI_ltF, nI_eqT, nI_eqF, xin_T, nI_clampT, nI_add, nI_inc, pk_subT, xb_some, xval, xlet, mI_s, mI_n, mI_k, mI_2, mJ_1, mJ_s, mJ_n, mJ_k, mJ_2, mT_1, mT_2, mT_s, mT_n, mT_k, mT_3, mR_1, mR_2, mR_3, bI_0, bI_1, bI_n0, bI_n1, Bool.true_eq_false, Bool.false_eq_true, eq_self, i_0, i_1, i_2, i_3, i_4, i_5, i_6, i_7, i_8, i_9, i_10, i_11, i_12, i_13, i_14, i_15, i_16, i_17, i_18, i_19, i_20, i_21, i_22, i_23, i_24, i_25, i_26, i_27, i_28, i_29, i_30, i_31, i_32, i_33, i_34, i_35, i_36, i_37, i_38, i_39, i_40, i_41, i_42, i_43, i_44, i_45, i_48, i_49, i_57, i_59, i_60, i_61, i_62, i_64, i_97, i_110, i_122, i_123, i_125, i_126, i_127, i_160, i_255, i_300, i_400, hp, y]
      rfl
    · intro hne
      have one : ∀ k, k < 28 → 10 ≤ k → k ≤ 22 → (pT k).length = 1 := by decide
      rw [if_neg c0] at hne ⊢
      repeat' split
      all_goals first | rfl | (exfalso; simp_all)
