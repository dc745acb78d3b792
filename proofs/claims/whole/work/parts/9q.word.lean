/-! PURE: word() on letters, whatever the size says -/
def rTy (M : xMem) (b : Nat) (t : List Nat) : Prop := t.length ≤ 160 ∧ (∀ i, i < t.length → M.1 (b + 2) i = nI (pc t i)) ∧ ∀ i, pc t i < 256
theorem r_spellsY {M : xMem} {b k p e n a1 a2 a3 a4 a5 : Nat} {t : List Nat} (h : rTy M b t) (hk : k < 64) (hp : M.1 (b + 9) k = nI p) (he : M.1 (b + 10) k = nI e) (hpe : p ≤ e) (hel : e ≤ t.length) (hn : 2 ≤ n) (hn5 : n ≤ 5) (h1 : a1 < 256) (h2 : a2 < 256) (h3 : a3 < 256) (h4 : a4 < 256) (h5 : a5 < 256) : (rSp t p e n a1 a2 a3 a4 a5 → f_N_spells b (nI k) (nI n) (nI a1) (nI a2) (nI a3) (nI a4) (nI a5) M = some (nI 1, M)) ∧ (¬ rSp t p e n a1 a2 a3 a4 a5 → f_N_spells b (nI k) (nI n) (nI a1) (nI a2) (nI a3) (nI a4) (nI a5) M = some (nI 0, M)) := by
  obtain ⟨x2, x3, x4⟩ := h
  unfold f_N_spells f_N_spells_71 f_N_spells_90 f_N_spells_109 rSp
  by_cases c0 : e - p = n
  · have y0 := x3 p (by omega)
    have y1 := x3 (p + 1) (by omega)
    have z0 := x4 p
    have z1 := x4 (p + 1)
    have z2 := x4 (p + 2)
    have z3 := x4 (p + 3)
    have z4 := x4 (p + 4)
    by_cases c1 : pc t p = a1
    · by_cases c2 : pc t (p + 1) = a2
      · by_cases n3 : n < 3
        · refine ⟨fun _ => ?_, fun h => absurd ⟨c0, c1, c2, fun h => by omega, fun h => by omega, fun h => by omega⟩ h⟩
          simp (disch := omega) only [↓reduceIte, nI_leT, nI_leF, nI_ltT, nI_ltF, nI_eqT, nI_eqF, xin_T, nI_clampT, nI_add, nI_inc, pk_subT, xb_some, xval, xlet, mI_s, mI_n, mI_k, mI_2, mJ_1, mJ_s, mJ_n, mJ_k, mJ_2, mT_1, mT_2, mT_s, mT_n, mT_k, mT_3, mR_1, mR_2, mR_3, bI_0, bI_1, bI_n0, bI_n1, Bool.true_eq_false, Bool.false_eq_true, eq_self, i_0, i_1, i_2, i_3, i_4, i_5, i_6, i_7, i_8, i_9, i_10, i_11, i_12, i_13, i_14, i_15, i_16, i_17, i_18, i_19, i_20, i_21, i_22, i_23, i_24, i_25, i_26, i_27, i_28, i_29, i_30, i_31, i_32, i_33, i_34, i_35, i_36, i_37, i_38, i_39, i_40, i_41, i_42, i_43, i_44, i_45, i_48, i_49, i_57, i_59, i_60, i_61, i_62, i_64, i_97, i_110, i_122, i_123, i_125, i_126, i_127, i_160, i_255, i_300, i_400, hp, he, y0, y1, c1, c2]
        · have y2 := x3 (p + 2) (by omega)
          by_cases c3 : pc t (p + 2) = a3
          · by_cases n4 : n < 4
            · refine ⟨fun _ => ?_, fun h => absurd ⟨c0, c1, c2, fun _ => c3, fun h => by omega, fun h => by omega⟩ h⟩
              simp (disch := omega) only [↓reduceIte, nI_leT, nI_leF, nI_ltT, nI_ltF, nI_eqT, nI_eqF, xin_T, nI_clampT, nI_add, nI_inc, pk_subT, xb_some, xval, xlet, mI_s, mI_n, mI_k, mI_2, mJ_1, mJ_s, mJ_n, mJ_k, mJ_2, mT_1, mT_2, mT_s, mT_n, mT_k, mT_3, mR_1, mR_2, mR_3, bI_0, bI_1, bI_n0, bI_n1, Bool.true_eq_false, Bool.false_eq_true, eq_self, i_0, i_1, i_2, i_3, i_4, i_5, i_6, i_7, i_8, i_9, i_10, i_11, i_12, i_13, i_14, i_15, i_16, i_17, i_18, i_19, i_20, i_21, i_22, i_23, i_24, i_25, i_26, i_27, i_28, i_29, i_30, i_31, i_32, i_33, i_34, i_35, i_36, i_37, i_38, i_39, i_40, i_41, i_42, i_43, i_44, i_45, i_48, i_49, i_57, i_59, i_60, i_61, i_62, i_64, i_97, i_110, i_122, i_123, i_125, i_126, i_127, i_160, i_255, i_300, i_400, hp, he, y0, y1, y2, c1, c2, c3]
            · have y3 := x3 (p + 3) (by omega)
              by_cases c4 : pc t (p + 3) = a4
              · by_cases n5 : n < 5
                · refine ⟨fun _ => ?_, fun h => absurd ⟨c0, c1, c2, fun _ => c3, fun _ => c4, fun h => by omega⟩ h⟩
                  simp (disch := omega) only [↓reduceIte, nI_leT, nI_leF, nI_ltT, nI_ltF, nI_eqT, nI_eqF, xin_T, nI_clampT, nI_add, nI_inc, pk_subT, xb_some, xval, xlet, mI_s, mI_n, mI_k, mI_2, mJ_1, mJ_s, mJ_n, mJ_k, mJ_2, mT_1, mT_2, mT_s, mT_n, mT_k, mT_3, mR_1, mR_2, mR_3, bI_0, bI_1, bI_n0, bI_n1, Bool.true_eq_false, Bool.false_eq_true, eq_self, i_0, i_1, i_2, i_3, i_4, i_5, i_6, i_7, i_8, i_9, i_10, i_11, i_12, i_13, i_14, i_15, i_16, i_17, i_18, i_19, i_20, i_21, i_22, i_23, i_24, i_25, i_26, i_27, i_28, i_29, i_30, i_31, i_32, i_33, i_34, i_35, i_36, i_37, i_38, i_39, i_40, i_41, i_42, i_43, i_44, i_45, i_48, i_49, i_57, i_59, i_60, i_61, i_62, i_64, i_97, i_110, i_122, i_123, i_125, i_126, i_127, i_160, i_255, i_300, i_400, hp, he, y0, y1, y2, y3, c1, c2, c3, c4]
                · have y4 := x3 (p + 4) (by omega)
                  by_cases c5 : pc t (p + 4) = a5
                  · refine ⟨fun _ => ?_, fun h => absurd ⟨c0, c1, c2, fun _ => c3, fun _ => c4, fun _ => c5⟩ h⟩
                    simp (disch := omega) only [↓reduceIte, nI_leT, nI_leF, nI_ltT, nI_ltF, nI_eqT, nI_eqF, xin_T, nI_clampT, nI_add, nI_inc, pk_subT, xb_some, xval, xlet, mI_s, mI_n, mI_k, mI_2, mJ_1, mJ_s, mJ_n, mJ_k, mJ_2, mT_1, mT_2, mT_s, mT_n, mT_k, mT_3, mR_1, mR_2, mR_3, bI_0, bI_1, bI_n0, bI_n1, Bool.true_eq_false, Bool.false_eq_true, eq_self, i_0, i_1, i_2, i_3, i_4, i_5, i_6, i_7, i_8, i_9, i_10, i_11, i_12, i_13, i_14, i_15, i_16, i_17, i_18, i_19, i_20, i_21, i_22, i_23, i_24, i_25, i_26, i_27, i_28, i_29, i_30, i_31, i_32, i_33, i_34, i_35, i_36, i_37, i_38, i_39, i_40, i_41, i_42, i_43, i_44, i_45, i_48, i_49, i_57, i_59, i_60, i_61, i_62, i_64, i_97, i_110, i_122, i_123, i_125, i_126, i_127, i_160, i_255, i_300, i_400, hp, he, y0, y1, y2, y3, y4, c1, c2, c3, c4, c5]
                  · refine ⟨fun h => absurd (h.2.2.2.2.2 (by omega)) c5, fun _ => ?_⟩
                    simp (disch := omega) only [↓reduceIte, nI_leT, nI_leF, nI_ltT, nI_ltF, nI_eqT, nI_eqF, xin_T, nI_clampT, nI_add, nI_inc, pk_subT, xb_some, xval, xlet, mI_s, mI_n, mI_k, mI_2, mJ_1, mJ_s, mJ_n, mJ_k, mJ_2, mT_1, mT_2, mT_s, mT_n, mT_k, mT_3, mR_1, mR_2, mR_3, bI_0, bI_1, bI_n0, bI_n1, Bool.true_eq_false, Bool.false_eq_true, eq_self, i_0, i_1, i_2, i_3, i_4, i_5, i_6, i_7, i_8, i_9, i_10, i_11, i_12, i_13, i_14, i_15, i_16, i_17, i_18, i_19, i_20, i_21, i_22, i_23, i_24, i_25, i_26, i_27, i_28, i_29, i_30, i_31, i_32, i_33, i_34, i_35, i_36, i_37, i_38, i_39, i_40, i_41, i_42, i_43, i_44, i_45, i_48, i_49, i_57, i_59, i_60, i_61, i_62, i_64, i_97, i_110, i_122, i_123, i_125, i_126, i_127, i_160, i_255, i_300, i_400, hp, he, y0, y1, y2, y3, y4, c1, c2, c3, c4]
              · refine ⟨fun h => absurd (h.2.2.2.2.1 (by omega)) c4, fun _ => ?_⟩
                simp (disch := omega) only [↓reduceIte, nI_leT, nI_leF, nI_ltT, nI_ltF, nI_eqT, nI_eqF, xin_T, nI_clampT, nI_add, nI_inc, pk_subT, xb_some, xval, xlet, mI_s, mI_n, mI_k, mI_2, mJ_1, mJ_s, mJ_n, mJ_k, mJ_2, mT_1, mT_2, mT_s, mT_n, mT_k, mT_3, mR_1, mR_2, mR_3, bI_0, bI_1, bI_n0, bI_n1, Bool.true_eq_false, Bool.false_eq_true, eq_self, i_0, i_1, i_2, i_3, i_4, i_5, i_6, i_7, i_8, i_9, i_10, i_11, i_12, i_13, i_14, i_15, i_16, i_17, i_18, i_19, i_20, i_21, i_22, i_23, i_24, i_25, i_26, i_27, i_28, i_29, i_30, i_31, i_32, i_33, i_34, i_35, i_36, i_37, i_38, i_39, i_40, i_41, i_42, i_43, i_44, i_45, i_48, i_49, i_57, i_59, i_60, i_61, i_62, i_64, i_97, i_110, i_122, i_123, i_125, i_126, i_127, i_160, i_255, i_300, i_400, hp, he, y0, y1, y2, y3, c1, c2, c3]
          · refine ⟨fun h => absurd (h.2.2.2.1 (by omega)) c3, fun _ => ?_⟩
            simp (disch := omega) only [↓reduceIte, nI_leT, nI_leF, nI_ltT, nI_ltF, nI_eqT, nI_eqF, xin_T, nI_clampT, nI_add, nI_inc, pk_subT, xb_some, xval, xlet, mI_s, mI_n, mI_k, mI_2, mJ_1, mJ_s, mJ_n, mJ_k, mJ_2, mT_1, mT_2, mT_s, mT_n, mT_k, mT_3, mR_1, mR_2, mR_3, bI_0, bI_1, bI_n0, bI_n1, Bool.true_eq_false, Bool.false_eq_true, eq_self, i_0, i_1, i_2, i_3, i_4, i_5, i_6, i_7, i_8, i_9, i_10, i_11, i_12, i_13, i_14, i_15, i_16, i_17, i_18, i_19, i_20, i_21, i_22, i_23, i_24, i_25, i_26, i_27, i_28, i_29, i_30, i_31, i_32, i_33, i_34, i_35, i_36, i_37, i_38, i_39, i_40, i_41, i_42, i_43, i_44, i_45, i_48, i_49, i_57, i_59, i_60, i_61, i_62, i_64, i_97, i_110, i_122, i_123, i_125, i_126, i_127, i_160, i_255, i_300, i_400, hp, he, y0, y1, y2, c1, c2]
      · refine ⟨fun h => absurd h.2.2.1 c2, fun _ => ?_⟩
        simp (disch := omega) only [↓reduceIte, nI_leT, nI_leF, nI_ltT, nI_ltF, nI_eqT, nI_eqF, xin_T, nI_clampT, nI_add, nI_inc, pk_subT, xb_some, xval, xlet, mI_s, mI_n, mI_k, mI_2, mJ_1, mJ_s, mJ_n, mJ_k, mJ_2, mT_1, mT_2, mT_s, mT_n, mT_k, mT_3, mR_1, mR_2, mR_3, bI_0, bI_1, bI_n0, bI_n1, Bool.true_eq_false, Bool.false_eq_true, eq_self, i_0, i_1, i_2, i_3, i_4, i_5, i_6, i_7, i_8, i_9, i_10, i_11, i_12, i_13, i_14, i_15, i_16, i_17, i_18, i_19, i_20, i_21, i_22, i_23, i_24, i_25, i_26, i_27, i_28, i_29, i_30, i_31, i_32, i_33, i_34, i_35, i_36, i_37, i_38, i_39, i_40, i_41, i_42, i_43, i_44, i_45, i_48, i_49, i_57, i_59, i_60, i_61, i_62, i_64, i_97, i_110, i_122, i_123, i_125, i_126, i_127, i_160, i_255, i_300, i_400, hp, he, y0, y1, c1]
    · refine ⟨fun h => absurd h.2.1 c1, fun _ => ?_⟩
      simp (disch := omega) only [↓reduceIte, nI_leT, nI_leF, nI_ltT, nI_ltF, nI_eqT, nI_eqF, xin_T, nI_clampT, nI_add, nI_inc, pk_subT, xb_some, xval, xlet, mI_s, mI_n, mI_k, mI_2, mJ_1, mJ_s, mJ_n, mJ_k, mJ_2, mT_1, mT_2, mT_s, mT_n, mT_k, mT_3, mR_1, mR_2, mR_3, bI_0, bI_1, bI_n0, bI_n1, Bool.true_eq_false, Bool.false_eq_true, eq_self, i_0, i_1, i_2, i_3, i_4, i_5, i_6, i_7, i_8, i_9, i_10, i_11, i_12, i_13, i_14, i_15, i_16, i_17, i_18, i_19, i_20, i_21, i_22, i_23, i_24, i_25, i_26, i_27, i_28, i_29, i_30, i_31, i_32, i_33, i_34, i_35, i_36, i_37, i_38, i_39, i_40, i_41, i_42, i_43, i_44, i_45, i_48, i_49, i_57, i_59, i_60, i_61, i_62, i_64, i_97, i_110, i_122, i_123, i_125, i_126, i_127, i_160, i_255, i_300, i_400, hp, he, y0]
  · refine ⟨fun h => absurd h.1 c0, fun _ => ?_⟩
    simp (disch := omega) only [↓reduceIte, nI_leT, nI_leF, nI_ltT, nI_ltF, nI_eqT, nI_eqF, xin_T, nI_clampT, nI_add, nI_inc, pk_subT, xb_some, xval, xlet, mI_s, mI_n, mI_k, mI_2, mJ_1, mJ_s, mJ_n, mJ_k, mJ_2, mT_1, mT_2, mT_s, mT_n, mT_k, mT_3, mR_1, mR_2, mR_3, bI_0, bI_1, bI_n0, bI_n1, Bool.true_eq_false, Bool.false_eq_true, eq_self, i_0, i_1, i_2, i_3, i_4, i_5, i_6, i_7, i_8, i_9, i_10, i_11, i_12, i_13, i_14, i_15, i_16, i_17, i_18, i_19, i_20, i_21, i_22, i_23, i_24, i_25, i_26, i_27, i_28, i_29, i_30, i_31, i_32, i_33, i_34, i_35, i_36, i_37, i_38, i_39, i_40, i_41, i_42, i_43, i_44, i_45, i_48, i_49, i_57, i_59, i_60, i_61, i_62, i_64, i_97, i_110, i_122, i_123, i_125, i_126, i_127, i_160, i_255, i_300, i_400, hp, he]
theorem r_wordY {M : xMem} {b k p e : Nat} {t : List Nat} (h : rTy M b t) (hk : k < 64) (hp : M.1 (b + 9) k = nI p) (he : M.1 (b + 10) k = nI e) (hpe : p ≤ e) (hel : e ≤ t.length) (hn : ∀ i, p ≤ i → i < e → pc t i ≠ 0) : f_N_word b (nI k) M = some (nI (rk (pKwOf (pOct t p e))), M) := by
  have kw := pKwOf_eq (t := t) (p := p) (e := e) h.2.2 hn
  have lt := pKwOf_lt (pOct t p e)
  generalize pKwOf (pOct t p e) = w at kw lt
  have s0 := r_spellsY (n := 3) (a1 := 108) (a2 := 101) (a3 := 116) (a4 := 0) (a5 := 0) h hk hp he hpe hel (by omega) (by omega) (by omega) (by omega) (by omega) (by omega) (by omega)
  have s1 := r_spellsY (n := 5) (a1 := 99) (a2 := 111) (a3 := 110) (a4 := 115) (a5 := 116) h hk hp he hpe hel (by omega) (by omega) (by omega) (by omega) (by omega) (by omega) (by omega)
  have s2 := r_spellsY (n := 3) (a1 := 118) (a2 := 97) (a3 := 114) (a4 := 0) (a5 := 0) h hk hp he hpe hel (by omega) (by omega) (by omega) (by omega) (by omega) (by omega) (by omega)
  have s3 := r_spellsY (n := 2) (a1 := 102) (a2 := 110) (a3 := 0) (a4 := 0) (a5 := 0) h hk hp he hpe hel (by omega) (by omega) (by omega) (by omega) (by omega) (by omega) (by omega)
  have s4 := r_spellsY (n := 2) (a1 := 105) (a2 := 102) (a3 := 0) (a4 := 0) (a5 := 0) h hk hp he hpe hel (by omega) (by omega) (by omega) (by omega) (by omega) (by omega) (by omega)
  have s5 := r_spellsY (n := 4) (a1 := 101) (a2 := 108) (a3 := 115) (a4 := 101) (a5 := 0) h hk hp he hpe hel (by omega) (by omega) (by omega) (by omega) (by omega) (by omega) (by omega)
  have s6 := r_spellsY (n := 5) (a1 := 119) (a2 := 104) (a3 := 105) (a4 := 108) (a5 := 101) h hk hp he hpe hel (by omega) (by omega) (by omega) (by omega) (by omega) (by omega) (by omega)
  rw [pSp_3] at s0 s2
  rw [pSp_5] at s1 s6
  rw [pSp_2] at s3 s4
  rw [pSp_4] at s5
  have k0 := kw 0 (by omega)
  have k1 := kw 1 (by omega)
  have k2 := kw 2 (by omega)
  have k3 := kw 3 (by omega)
  have k4 := kw 4 (by omega)
  have k5 := kw 5 (by omega)
  have k6 := kw 6 (by omega)
  have k7 := kw 7 (by omega)
  have z1 : ¬ ((1 : Int32) = 0) := by decide
  unfold f_N_word
  by_cases c0 : w = 0
  · have q : f_N_spells b (nI k) 3 108 101 116 0 0 M = some (1, M) := s0.1 (k0.mp c0)
    rw [q, xb_some, if_neg z1, c0]
    rfl
  have q0 : f_N_spells b (nI k) 3 108 101 116 0 0 M = some (0, M) := s0.2 (fun h => c0 (k0.mpr h))
  rw [q0, xb_some, if_pos rfl]
  by_cases c1 : w = 1
  · have q : f_N_spells b (nI k) 5 99 111 110 115 116 M = some (1, M) := s1.1 (k1.mp c1)
    rw [q, xb_some, if_neg z1, c1]
    rfl
  have q1 : f_N_spells b (nI k) 5 99 111 110 115 116 M = some (0, M) := s1.2 (fun h => c1 (k1.mpr h))
  rw [q1, xb_some, if_pos rfl]
  by_cases c2 : w = 2
  · have q : f_N_spells b (nI k) 3 118 97 114 0 0 M = some (1, M) := s2.1 (k2.mp c2)
    rw [q, xb_some, if_neg z1, c2]
    rfl
  have q2 : f_N_spells b (nI k) 3 118 97 114 0 0 M = some (0, M) := s2.2 (fun h => c2 (k2.mpr h))
  rw [q2, xb_some, if_pos rfl]
  by_cases c3 : w = 3
  · have q : f_N_spells b (nI k) 2 102 110 0 0 0 M = some (1, M) := s3.1 (k3.mp c3)
    rw [q, xb_some, if_neg z1, c3]
    rfl
  have q3 : f_N_spells b (nI k) 2 102 110 0 0 0 M = some (0, M) := s3.2 (fun h => c3 (k3.mpr h))
  rw [q3, xb_some, if_pos rfl]
  by_cases c4 : w = 4
  · have q : f_N_spells b (nI k) 2 105 102 0 0 0 M = some (1, M) := s4.1 (k4.mp c4)
    rw [q, xb_some, if_neg z1, c4]
    rfl
  have q4 : f_N_spells b (nI k) 2 105 102 0 0 0 M = some (0, M) := s4.2 (fun h => c4 (k4.mpr h))
  rw [q4, xb_some, if_pos rfl]
  by_cases c5 : w = 5
  · have q : f_N_spells b (nI k) 4 101 108 115 101 0 M = some (1, M) := s5.1 (k5.mp c5)
    rw [q, xb_some, if_neg z1, c5]
    rfl
  have q5 : f_N_spells b (nI k) 4 101 108 115 101 0 M = some (0, M) := s5.2 (fun h => c5 (k5.mpr h))
  rw [q5, xb_some, if_pos rfl]
  by_cases c6 : w = 6
  · have q : f_N_spells b (nI k) 5 119 104 105 108 101 M = some (1, M) := s6.1 (k6.mp c6)
    rw [q, xb_some, if_neg z1, c6]
    rfl
  have q6 : f_N_spells b (nI k) 5 119 104 105 108 101 M = some (0, M) := s6.2 (fun h => c6 (k6.mpr h))
  rw [q6, xb_some, if_pos rfl]
  obtain ⟨x2, x3, x4⟩ := h
  unfold f_N_word_269 f_N_word_270
  have l7 : pT 7 = [114, 101, 116, 117, 114, 110] := rfl
  rw [l7] at k7
  by_cases l6 : e - p = 6
  · have y0 := x3 p (by omega)
    have y1 := x3 (p + 1) (by omega)
    have y2 := x3 (p + 2) (by omega)
    have y3 := x3 (p + 3) (by omega)
    have y4 := x3 (p + 4) (by omega)
    have y5 := x3 (p + 5) (by omega)
    have z0 := x4 p
    have z1 := x4 (p + 1)
    have z2 := x4 (p + 2)
    have z3 := x4 (p + 3)
    have z4 := x4 (p + 4)
    have z5 := x4 (p + 5)
    have i_114 : (114 : Int32) = nI 114 := rfl
    have i_101 : (101 : Int32) = nI 101 := rfl
    have i_116 : (116 : Int32) = nI 116 := rfl
    have i_117 : (117 : Int32) = nI 117 := rfl
    have ne : ∀ j, j < 6 → pc t (p + j) ≠ pc [114, 101, 116, 117, 114, 110] j → w = 23 := by
      intro j hj hne
      rcases lt with h | h
      · exact h
      · exact absurd (k7.mp (by omega) |>.2 j hj) hne
    by_cases d0 : pc t p = 114
    · by_cases d1 : pc t (p + 1) = 101
      · by_cases d2 : pc t (p + 2) = 116
        · by_cases d3 : pc t (p + 3) = 117
          · by_cases d4 : pc t (p + 4) = 114
            · by_cases d5 : pc t (p + 5) = 110
              · have w7 : w = 7 := k7.mpr ⟨l6, by
                  intro i hi
                  have : i < 6 := hi
                  match i, this with
                  | 0, _ => exact d0
                  | 1, _ => exact d1
                  | 2, _ => exact d2
                  | 3, _ => exact d3
                  | 4, _ => exact d4
                  | 5, _ => exact d5⟩
                rw [w7]
                simp (disch := omega) only [↓reduceIte, nI_leT, nI_leF, nI_ltT, nI_ltF, nI_eqT, nI_eqF, xin_T, nI_clampT, nI_add, nI_inc, pk_subT, xb_some, xval, xlet, mI_s, mI_n, mI_k, mI_2, mJ_1, mJ_s, mJ_n, mJ_k, mJ_2, mT_1, mT_2, mT_s, mT_n, mT_k, mT_3, mR_1, mR_2, mR_3, bI_0, bI_1, bI_n0, bI_n1, Bool.true_eq_false, Bool.false_eq_true, eq_self, i_0, i_1, i_2, i_3, i_4, i_5, i_6, i_7, i_8, i_9, i_10, i_11, i_12, i_13, i_14, i_15, i_16, i_17, i_18, i_19, i_20, i_21, i_22, i_23, i_24, i_25, i_26, i_27, i_28, i_29, i_30, i_31, i_32, i_33, i_34, i_35, i_36, i_37, i_38, i_39, i_40, i_41, i_42, i_43, i_44, i_45, i_48, i_49, i_57, i_59, i_60, i_61, i_62, i_64, i_97, i_110, i_122, i_123, i_125, i_126, i_127, i_160, i_255, i_300, i_400, hp, he, y0, y1, y2, y3, y4, y5, l6, d0, d1, d2, d3, d4, d5, i_114, i_101, i_116, i_117]
                rfl
              · have w7 := ne 5 (by omega) d5
                rw [w7]
                simp (disch := omega) only [↓reduceIte, nI_leT, nI_leF, nI_ltT, nI_ltF, nI_eqT, nI_eqF, xin_T, nI_clampT, nI_add, nI_inc, pk_subT, xb_some, xval, xlet, mI_s, mI_n, mI_k, mI_2, mJ_1, mJ_s, mJ_n, mJ_k, mJ_2, mT_1, mT_2, mT_s, mT_n, mT_k, mT_3, mR_1, mR_2, mR_3, bI_0, bI_1, bI_n0, bI_n1, Bool.true_eq_false, Bool.false_eq_true, eq_self, i_0, i_1, i_2, i_3, i_4, i_5, i_6, i_7, i_8, i_9, i_10, i_11, i_12, i_13, i_14, i_15, i_16, i_17, i_18, i_19, i_20, i_21, i_22, i_23, i_24, i_25, i_26, i_27, i_28, i_29, i_30, i_31, i_32, i_33, i_34, i_35, i_36, i_37, i_38, i_39, i_40, i_41, i_42, i_43, i_44, i_45, i_48, i_49, i_57, i_59, i_60, i_61, i_62, i_64, i_97, i_110, i_122, i_123, i_125, i_126, i_127, i_160, i_255, i_300, i_400, hp, he, y0, y1, y2, y3, y4, y5, l6, d0, d1, d2, d3, d4, i_114, i_101, i_116, i_117]
                rfl
            · have w7 := ne 4 (by omega) d4
              rw [w7]
              simp (disch := omega) only [↓reduceIte, nI_leT, nI_leF, nI_ltT, nI_ltF, nI_eqT, nI_eqF, xin_T, nI_clampT, nI_add, nI_inc, pk_subT, xb_some, xval, xlet, mI_s, mI_n, mI_k, mI_2, mJ_1, mJ_s, mJ_n, mJ_k, mJ_2, mT_1, mT_2, mT_s, mT_n, mT_k, mT_3, mR_1, mR_2, mR_3, bI_0, bI_1, bI_n0, bI_n1, Bool.true_eq_false, Bool.false_eq_true, eq_self, i_0, i_1, i_2, i_3, i_4, i_5, i_6, i_7, i_8, i_9, i_10, i_11, i_12, i_13, i_14, i_15, i_16, i_17, i_18, i_19, i_20, i_21, i_22, i_23, i_24, i_25, i_26, i_27, i_28, i_29, i_30, i_31, i_32, i_33, i_34, i_35, i_36, i_37, i_38, i_39, i_40, i_41, i_42, i_43, i_44, i_45, i_48, i_49, i_57, i_59, i_60, i_61, i_62, i_64, i_97, i_110, i_122, i_123, i_125, i_126, i_127, i_160, i_255, i_300, i_400, hp, he, y0, y1, y2, y3, y4, l6, d0, d1, d2, d3, i_114, i_101, i_116, i_117]
              rfl
          · have w7 := ne 3 (by omega) d3
            rw [w7]
            simp (disch := omega) only [↓reduceIte, nI_leT, nI_leF, nI_ltT, nI_ltF, nI_eqT, nI_eqF, xin_T, nI_clampT, nI_add, nI_inc, pk_subT, xb_some, xval, xlet, mI_s, mI_n, mI_k, mI_2, mJ_1, mJ_s, mJ_n, mJ_k, mJ_2, mT_1, mT_2, mT_s, mT_n, mT_k, mT_3, mR_1, mR_2, mR_3, bI_0, bI_1, bI_n0, bI_n1, Bool.true_eq_false, Bool.false_eq_true, eq_self, i_0, i_1, i_2, i_3, i_4, i_5, i_6, i_7, i_8, i_9, i_10, i_11, i_12, i_13, i_14, i_15, i_16, i_17, i_18, i_19, i_20, i_21, i_22, i_23, i_24, i_25, i_26, i_27, i_28, i_29, i_30, i_31, i_32, i_33, i_34, i_35, i_36, i_37, i_38, i_39, i_40, i_41, i_42, i_43, i_44, i_45, i_48, i_49, i_57, i_59, i_60, i_61, i_62, i_64, i_97, i_110, i_122, i_123, i_125, i_126, i_127, i_160, i_255, i_300, i_400, hp, he, y0, y1, y2, y3, l6, d0, d1, d2, i_114, i_101, i_116, i_117]
            rfl
        · have w7 := ne 2 (by omega) d2
          rw [w7]
          simp (disch := omega) only [↓reduceIte, nI_leT, nI_leF, nI_ltT, nI_ltF, nI_eqT, nI_eqF, xin_T, nI_clampT, nI_add, nI_inc, pk_subT, xb_some, xval, xlet, mI_s, mI_n, mI_k, mI_2, mJ_1, mJ_s, mJ_n, mJ_k, mJ_2, mT_1, mT_2, mT_s, mT_n, mT_k, mT_3, mR_1, mR_2, mR_3, bI_0, bI_1, bI_n0, bI_n1, Bool.true_eq_false, Bool.false_eq_true, eq_self, i_0, i_1, i_2, i_3, i_4, i_5, i_6, i_7, i_8, i_9, i_10, i_11, i_12, i_13, i_14, i_15, i_16, i_17, i_18, i_19, i_20, i_21, i_22, i_23, i_24, i_25, i_26, i_27, i_28, i_29, i_30, i_31, i_32, i_33, i_34, i_35, i_36, i_37, i_38, i_39, i_40, i_41, i_42, i_43, i_44, i_45, i_48, i_49, i_57, i_59, i_60, i_61, i_62, i_64, i_97, i_110, i_122, i_123, i_125, i_126, i_127, i_160, i_255, i_300, i_400, hp, he, y0, y1, y2, l6, d0, d1, i_114, i_101, i_116, i_117]
          rfl
      · have w7 := ne 1 (by omega) d1
        rw [w7]
        simp (disch := omega) only [↓reduceIte, nI_leT, nI_leF, nI_ltT, nI_ltF, nI_eqT, nI_eqF, xin_T, nI_clampT, nI_add, nI_inc, pk_subT, xb_some, xval, xlet, mI_s, mI_n, mI_k, mI_2, mJ_1, mJ_s, mJ_n, mJ_k, mJ_2, mT_1, mT_2, mT_s, mT_n, mT_k, mT_3, mR_1, mR_2, mR_3, bI_0, bI_1, bI_n0, bI_n1, Bool.true_eq_false, Bool.false_eq_true, eq_self, i_0, i_1, i_2, i_3, i_4, i_5, i_6, i_7, i_8, i_9, i_10, i_11, i_12, i_13, i_14, i_15, i_16, i_17, i_18, i_19, i_20, i_21, i_22, i_23, i_24, i_25, i_26, i_27, i_28, i_29, i_30, i_31, i_32, i_33, i_34, i_35, i_36, i_37, i_38, i_39, i_40, i_41, i_42, i_43, i_44, i_45, i_48, i_49, i_57, i_59, i_60, i_61, i_62, i_64, i_97, i_110, i_122, i_123, i_125, i_126, i_127, i_160, i_255, i_300, i_400, hp, he, y0, y1, l6, d0, i_114, i_101, i_116, i_117]
        rfl
    · have w7 := ne 0 (by omega) d0
      rw [w7]
      simp (disch := omega) only [↓reduceIte, nI_leT, nI_leF, nI_ltT, nI_ltF, nI_eqT, nI_eqF, xin_T, nI_clampT, nI_add, nI_inc, pk_subT, xb_some, xval, xlet, mI_s, mI_n, mI_k, mI_2, mJ_1, mJ_s, mJ_n, mJ_k, mJ_2, mT_1, mT_2, mT_s, mT_n, mT_k, mT_3, mR_1, mR_2, mR_3, bI_0, bI_1, bI_n0, bI_n1, Bool.true_eq_false, Bool.false_eq_true, eq_self, i_0, i_1, i_2, i_3, i_4, i_5, i_6, i_7, i_8, i_9, i_10, i_11, i_12, i_13, i_14, i_15, i_16, i_17, i_18, i_19, i_20, i_21, i_22, i_23, i_24, i_25, i_26, i_27, i_28, i_29, i_30, i_31, i_32, i_33, i_34, i_35, i_36, i_37, i_38, i_39, i_40, i_41, i_42, i_43, i_44, i_45, i_48, i_49, i_57, i_59, i_60, i_61, i_62, i_64, i_97, i_110, i_122, i_123, i_125, i_126, i_127, i_160, i_255, i_300, i_400, hp, he, y0, l6, i_114, i_101, i_116, i_117]
      rfl
  · have w7 : w = 23 := by
      rcases lt with h | h
      · exact h
      · exact absurd (k7.mp (by omega)).1 l6
    rw [w7]
    simp (disch := omega) only [↓reduceIte, nI_leT, nI_leF, nI_ltT, nI_ltF, nI_eqT, nI_eqF, xin_T, nI_clampT, nI_add, nI_inc, pk_subT, xb_some, xval, xlet, mI_s, mI_n, mI_k, mI_2, mJ_1, mJ_s, mJ_n, mJ_k, mJ_2, mT_1, mT_2, mT_s, mT_n, mT_k, mT_3, mR_1, mR_2, mR_3, bI_0, bI_1, bI_n0, bI_n1, Bool.true_eq_false, Bool.false_eq_true, eq_self, i_0, i_1, i_2, i_3, i_4, i_5, i_6, i_7, i_8, i_9, i_10, i_11, i_12, i_13, i_14, i_15, i_16, i_17, i_18, i_19, i_20, i_21, i_22, i_23, i_24, i_25, i_26, i_27, i_28, i_29, i_30, i_31, i_32, i_33, i_34, i_35, i_36, i_37, i_38, i_39, i_40, i_41, i_42, i_43, i_44, i_45, i_48, i_49, i_57, i_59, i_60, i_61, i_62, i_64, i_97, i_110, i_122, i_123, i_125, i_126, i_127, i_160, i_255, i_300, i_400, hp, he]
    rfl
