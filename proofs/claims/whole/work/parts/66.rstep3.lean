/-! PURE: steps of the reference's grammar: fns -/
theorem r_enters {M : xMem} {b tok sc g : Nat} {t : List Nat} {r : List qI} {L : qL} (h : nQ M b t r tok sc L) (hl : (L 0).length < 64) (hg : g ≤ 1) : f_N_enters b (nI g) M = some ((), nOpen M b (L 0).length sc g) := by
  have h28 := h.2.2.2.2.1
  have h27 := h.2.2.2.2.2.1.1
  unfold f_N_enters nOpen
  have : g = 0 ∨ g = 1 := by omega
  rcases this with rfl | rfl
  · simp (disch := omega) only [↓reduceIte, nI_leT, nI_leF, nI_ltT, nI_ltF, nI_eqT, nI_eqF, xin_T, nI_clampT, nI_add, nI_inc, pk_subT, xb_some, xval, xlet, mI_s, mI_n, mI_k, mI_2, mJ_1, mJ_s, mJ_n, mJ_k, mJ_2, mT_1, mT_2, mT_s, mT_n, mT_k, mT_3, mR_1, mR_2, mR_3, bI_0, bI_1, bI_n0, bI_n1, Bool.true_eq_false, Bool.false_eq_true, eq_self, i_0, i_1, i_2, i_3, i_4, i_5, i_6, i_7, i_8, i_9, i_10, i_11, i_12, i_13, i_14, i_15, i_16, i_17, i_18, i_19, i_20, i_21, i_22, i_23, i_24, i_25, i_26, i_27, i_28, i_29, i_30, i_31, i_32, i_33, i_34, i_35, i_36, i_37, i_38, i_39, i_40, i_41, i_42, i_43, i_44, i_45, i_48, i_49, i_57, i_59, i_60, i_61, i_62, i_64, i_97, i_110, i_122, i_123, i_125, i_126, i_127, i_160, i_255, i_300, i_400, h28, h27, vp_narB0]
  · simp (disch := omega) only [↓reduceIte, nI_leT, nI_leF, nI_ltT, nI_ltF, nI_eqT, nI_eqF, xin_T, nI_clampT, nI_add, nI_inc, pk_subT, xb_some, xval, xlet, mI_s, mI_n, mI_k, mI_2, mJ_1, mJ_s, mJ_n, mJ_k, mJ_2, mT_1, mT_2, mT_s, mT_n, mT_k, mT_3, mR_1, mR_2, mR_3, bI_0, bI_1, bI_n0, bI_n1, Bool.true_eq_false, Bool.false_eq_true, eq_self, i_0, i_1, i_2, i_3, i_4, i_5, i_6, i_7, i_8, i_9, i_10, i_11, i_12, i_13, i_14, i_15, i_16, i_17, i_18, i_19, i_20, i_21, i_22, i_23, i_24, i_25, i_26, i_27, i_28, i_29, i_30, i_31, i_32, i_33, i_34, i_35, i_36, i_37, i_38, i_39, i_40, i_41, i_42, i_43, i_44, i_45, i_48, i_49, i_57, i_59, i_60, i_61, i_62, i_64, i_97, i_110, i_122, i_123, i_125, i_126, i_127, i_160, i_255, i_300, i_400, h28, h27, vp_narB1]
theorem nQ_open {M : xMem} {b tok sc fn p : Nat} {t : List Nat} {r : List qI} {L : qL} (h : nQ M b t r tok sc L) : nQ (nOpen M b (L 0).length sc fn) b t r tok (L 0).length (qOpen fn p sc L) := nQ_nOpen h
/-- a list begins -/
def nLst (M : xMem) (b n h d k : Nat) : xMem := wI (mPush (wI M (b + 16) n (nI 0)) b h 1 d (nI k) n) b 29 (nI (n + 1))
theorem r_lists {M : xMem} {b n h d k : Nat} (h29 : M.1 b 29 = nI n) (h8 : M.1 b 8 = nI h) (hn : n < 64) (hh : h < 300) : f_N_lists b (nI d) (nI k) M = some ((), nLst M b n h d k) := by
  have p := r_push (M := wI M (b + 16) n (nI 0)) (b := b) (h := h) (w := 1) (d := d) (a := nI k) (c := n) (by rw [mI_n (by omega)]; exact h8) hh
  have e : (mPush (wI M (b + 16) n (nI 0)) b h 1 d (nI k) n).1 b 29 = nI n := by
    rw [mPush_fr.2 _ _ (by unfold rStS; omega), mI_n (by omega)]; exact h29
  unfold f_N_lists nLst
  simp (disch := omega) only [↓reduceIte, nI_leT, nI_leF, nI_ltT, nI_ltF, nI_eqT, nI_eqF, xin_T, nI_clampT, nI_add, nI_inc, pk_subT, xb_some, xval, xlet, mI_s, mI_n, mI_k, mI_2, mJ_1, mJ_s, mJ_n, mJ_k, mJ_2, mT_1, mT_2, mT_s, mT_n, mT_k, mT_3, mR_1, mR_2, mR_3, bI_0, bI_1, bI_n0, bI_n1, Bool.true_eq_false, Bool.false_eq_true, eq_self, i_0, i_1, i_2, i_3, i_4, i_5, i_6, i_7, i_8, i_9, i_10, i_11, i_12, i_13, i_14, i_15, i_16, i_17, i_18, i_19, i_20, i_21, i_22, i_23, i_24, i_25, i_26, i_27, i_28, i_29, i_30, i_31, i_32, i_33, i_34, i_35, i_36, i_37, i_38, i_39, i_40, i_41, i_42, i_43, i_44, i_45, i_48, i_49, i_57, i_59, i_60, i_61, i_62, i_64, i_97, i_110, i_122, i_123, i_125, i_126, i_127, i_160, i_255, i_300, i_400, h29, p, e]
def nLstS (b : Nat) (a k : Nat) : Prop := (a = b ∧ (k = 8 ∨ k = 29)) ∨ (b + 11 ≤ a ∧ a ≤ b + 14) ∨ a = b + 16
theorem nLst_fr {M : xMem} {b n h d k : Nat} : rF (nLstS b) M (nLst M b n h d k) := by
  unfold nLst
  exact ((rF.I (by unfold nLstS; omega)).trans (mPush_fr.mono (by intro a k; unfold rStS nLstS; omega))).trans (rF.I (by unfold nLstS; omega))
theorem nLst_gr {M : xMem} {b n h d k : Nat} : rF (rGrS b) M (nLst M b n h d k) := nLst_fr.mono (by intro a k; unfold nLstS rGrS; omega)
theorem nLst_4 {M : xMem} {b n h d k : Nat} : (nLst M b n h d k).1 b 4 = M.1 b 4 := nLst_fr.2 _ _ (by unfold nLstS; omega)
theorem nLst_55 {M : xMem} {b n h d k : Nat} : (nLst M b n h d k).1 b 55 = M.1 b 55 := nLst_fr.2 _ _ (by unfold nLstS; omega)
theorem nQ_lists {M : xMem} {b tok sc d k q : Nat} {t : List Nat} {r : List qI} {L : qL} (h : nQ M b t r tok sc L) : nQ (nLst M b (L 5).length r.length d (rk k)) b t ((1, d, k, (L 5).length) :: r) tok sc (qA 5 (0, q, 0, 0, 0) L) := by
  obtain ⟨h1, h2, h3, h4, h5, k0, k5, k1, k2, k14, k15, k16, k6, k18, k19, k4, kx⟩ := h
  have f := nLst_fr (M := M) (b := b) (n := (L 5).length) (h := r.length) (d := d) (k := rk k)
  have sk : nStk (nLst M b (L 5).length r.length d (rk k)) b ((1, d, k, (L 5).length) :: r) := by
    have s1 : nStk (wI M (b + 16) (L 5).length (nI 0)) b r := h4.to (by intro a j q1 q2 q3; exact mI_n (by omega))
    have s2 := mPush_stk (x := (1, d, k, (L 5).length)) s1
    exact s2.to (by intro a j q1 q2 q3; exact mI_n (by omega))
  refine ⟨h1.gr (f.mono (by intro a k; unfold nLstS rGrS; omega)), ?_, ?_, sk, ?_, k0.fr f ?_ ?_, ?_, k1.fr f ?_ ?_, k2.fr f ?_ ?_, k14.fr f ?_ ?_, k15.fr f ?_ ?_, k16.fr f ?_ ?_, k6.fr f ?_ ?_, k18.fr f ?_ ?_, k19.fr f ?_ ?_, k4.fr f ?_ ?_, ?_⟩
  all_goals first
    | (rw [f.2 _ _ (by unfold nLstS; omega)]; assumption)
    | (unfold nLstS; omega)
    | (intro a h j; simp [c0, c5, c1, c2, c14, c15, c16, c6, c18, c19, c4] at h; unfold nLstS; omega)
    | (intro i hi hn; rw [f.2 _ _ (by unfold nLstS; omega)]; exact kx i hi hn)
    | (unfold nLst; rw [mI_k (by decide), mPush_8]; rfl)
    | (rw [qA_s]; refine k5.app (by unfold nLst; exact mI_s rfl rfl) ?_
       intro c hc
       simp only [c5, List.mem_cons, List.not_mem_nil, or_false] at hc
       rcases hc with rfl
       refine ⟨fun i hi => ?_, ?_⟩
       · unfold nLst; rw [mI_n (by omega), mPush_fr.2 _ _ (by unfold rStS; omega), mI_k (by omega)]
       · unfold nLst; rw [mI_n (by omega), mPush_fr.2 _ _ (by unfold rStS; omega), mI_s rfl rfl])
theorem r_wrongsB {M : xMem} {b e : Nat} {v : Int32} (h4 : M.1 b 4 = nI e) (he : e ≤ 160) : f_N_wrongs b v M = some ((), M) := by
  have ge : (nI 0 ≤ nI e) = True := eq_true (nI_le (by omega) (by omega))
  unfold f_N_wrongs
  by_cases c : v = 0
  · subst c; simp (disch := omega) only [↓reduceIte, nI_leT, nI_leF, nI_ltT, nI_ltF, nI_eqT, nI_eqF, xin_T, nI_clampT, nI_add, nI_inc, pk_subT, xb_some, xval, xlet, mI_s, mI_n, mI_k, mI_2, mJ_1, mJ_s, mJ_n, mJ_k, mJ_2, mT_1, mT_2, mT_s, mT_n, mT_k, mT_3, mR_1, mR_2, mR_3, bI_0, bI_1, bI_n0, bI_n1, Bool.true_eq_false, Bool.false_eq_true, eq_self, i_0, i_1, i_2, i_3, i_4, i_5, i_6, i_7, i_8, i_9, i_10, i_11, i_12, i_13, i_14, i_15, i_16, i_17, i_18, i_19, i_20, i_21, i_22, i_23, i_24, i_25, i_26, i_27, i_28, i_29, i_30, i_31, i_32, i_33, i_34, i_35, i_36, i_37, i_38, i_39, i_40, i_41, i_42, i_43, i_44, i_45, i_48, i_49, i_57, i_59, i_60, i_61, i_62, i_64, i_97, i_110, i_122, i_123, i_125, i_126, i_127, i_160, i_255, i_300, i_400]
  · rw [if_neg c]; simp (disch := omega) only [↓reduceIte, nI_leT, nI_leF, nI_ltT, nI_ltF, nI_eqT, nI_eqF, xin_T, nI_clampT, nI_add, nI_inc, pk_subT, xb_some, xval, xlet, mI_s, mI_n, mI_k, mI_2, mJ_1, mJ_s, mJ_n, mJ_k, mJ_2, mT_1, mT_2, mT_s, mT_n, mT_k, mT_3, mR_1, mR_2, mR_3, bI_0, bI_1, bI_n0, bI_n1, Bool.true_eq_false, Bool.false_eq_true, eq_self, i_0, i_1, i_2, i_3, i_4, i_5, i_6, i_7, i_8, i_9, i_10, i_11, i_12, i_13, i_14, i_15, i_16, i_17, i_18, i_19, i_20, i_21, i_22, i_23, i_24, i_25, i_26, i_27, i_28, i_29, i_30, i_31, i_32, i_33, i_34, i_35, i_36, i_37, i_38, i_39, i_40, i_41, i_42, i_43, i_44, i_45, i_48, i_49, i_57, i_59, i_60, i_61, i_62, i_64, i_97, i_110, i_122, i_123, i_125, i_126, i_127, i_160, i_255, i_300, i_400, h4, ge]
theorem nQ.bad {M : xMem} {b tok sc : Nat} {t : List Nat} {r : List qI} {L : qL} {v : Int32} (h : nQ M b t r tok sc L) : nQ (wI M b 4 v) b t r tok sc L := by
  obtain ⟨h1, h2, h3, h4, h5, h6⟩ := h
  have f : rF (fun a k => a = b ∧ k = 4) M (wI M b 4 v) := rF.I ⟨rfl, rfl⟩
  refine ⟨h1.gr (f.mono (by intro a k; unfold rGrS; omega)), by simp (disch := omega) only [↓reduceIte, nI_leT, nI_leF, nI_ltT, nI_ltF, nI_eqT, nI_eqF, xin_T, nI_clampT, nI_add, nI_inc, pk_subT, xb_some, xval, xlet, mI_s, mI_n, mI_k, mI_2, mJ_1, mJ_s, mJ_n, mJ_k, mJ_2, mT_1, mT_2, mT_s, mT_n, mT_k, mT_3, mR_1, mR_2, mR_3, bI_0, bI_1, bI_n0, bI_n1, Bool.true_eq_false, Bool.false_eq_true, eq_self, i_0, i_1, i_2, i_3, i_4, i_5, i_6, i_7, i_8, i_9, i_10, i_11, i_12, i_13, i_14, i_15, i_16, i_17, i_18, i_19, i_20, i_21, i_22, i_23, i_24, i_25, i_26, i_27, i_28, i_29, i_30, i_31, i_32, i_33, i_34, i_35, i_36, i_37, i_38, i_39, i_40, i_41, i_42, i_43, i_44, i_45, i_48, i_49, i_57, i_59, i_60, i_61, i_62, i_64, i_97, i_110, i_122, i_123, i_125, i_126, i_127, i_160, i_255, i_300, i_400, h2], by simp (disch := omega) only [↓reduceIte, nI_leT, nI_leF, nI_ltT, nI_ltF, nI_eqT, nI_eqF, xin_T, nI_clampT, nI_add, nI_inc, pk_subT, xb_some, xval, xlet, mI_s, mI_n, mI_k, mI_2, mJ_1, mJ_s, mJ_n, mJ_k, mJ_2, mT_1, mT_2, mT_s, mT_n, mT_k, mT_3, mR_1, mR_2, mR_3, bI_0, bI_1, bI_n0, bI_n1, Bool.true_eq_false, Bool.false_eq_true, eq_self, i_0, i_1, i_2, i_3, i_4, i_5, i_6, i_7, i_8, i_9, i_10, i_11, i_12, i_13, i_14, i_15, i_16, i_17, i_18, i_19, i_20, i_21, i_22, i_23, i_24, i_25, i_26, i_27, i_28, i_29, i_30, i_31, i_32, i_33, i_34, i_35, i_36, i_37, i_38, i_39, i_40, i_41, i_42, i_43, i_44, i_45, i_48, i_49, i_57, i_59, i_60, i_61, i_62, i_64, i_97, i_110, i_122, i_123, i_125, i_126, i_127, i_160, i_255, i_300, i_400, h3], h4.to ?_, by simp (disch := omega) only [↓reduceIte, nI_leT, nI_leF, nI_ltT, nI_ltF, nI_eqT, nI_eqF, xin_T, nI_clampT, nI_add, nI_inc, pk_subT, xb_some, xval, xlet, mI_s, mI_n, mI_k, mI_2, mJ_1, mJ_s, mJ_n, mJ_k, mJ_2, mT_1, mT_2, mT_s, mT_n, mT_k, mT_3, mR_1, mR_2, mR_3, bI_0, bI_1, bI_n0, bI_n1, Bool.true_eq_false, Bool.false_eq_true, eq_self, i_0, i_1, i_2, i_3, i_4, i_5, i_6, i_7, i_8, i_9, i_10, i_11, i_12, i_13, i_14, i_15, i_16, i_17, i_18, i_19, i_20, i_21, i_22, i_23, i_24, i_25, i_26, i_27, i_28, i_29, i_30, i_31, i_32, i_33, i_34, i_35, i_36, i_37, i_38, i_39, i_40, i_41, i_42, i_43, i_44, i_45, i_48, i_49, i_57, i_59, i_60, i_61, i_62, i_64, i_97, i_110, i_122, i_123, i_125, i_126, i_127, i_160, i_255, i_300, i_400, h5], h6.fr f (by intro k _ _ _ h; omega) (by intro a _ _ j h; omega)⟩
  intro a j h1 h2 h3
  exact mI_n (by omega)
/-- push of OUT, then the list -/
theorem r_out_lists {M : xMem} {b d tok sc q : Nat} {t : List Nat} {r : List qI} {L : qL} (h : nQ M b t r tok sc L) (hr : r.length ≤ 200) (h5 : (L 5).length < 64) : ∃ M', (xbind (f_N_push b (nI 9) (nI d) (nI 0) (nI 0) M) fun _ M => f_N_lists b (nI (d + 1)) (nI 23) M) = some ((), M') ∧ nQ M' b t ((1, d + 1, 19, (L 5).length) :: (9, d, 0, 0) :: r) tok sc (qA 5 (0, q, 0, 0, 0) L) ∧ rF (rGrS b) M M' ∧ M'.1 b 4 = M.1 b 4 ∧ M'.1 b 55 = M.1 b 55 := by
  have p1 := r_push (b := b) (w := 9) (d := d) (a := nI 0) (c := 0) h.2.2.1 (by omega)
  have q1 := h.push (9, d, 0, 0)
  have li := r_lists (d := d + 1) (k := 23) q1.2.2.2.2.2.2.1.1 q1.2.2.1 h5 (by simp only [List.length_cons]; omega)
  refine ⟨_, ?_, nQ_lists (d := d + 1) (k := 19) (q := q) q1, mPush_gr.trans nLst_gr, by rw [nLst_4, mPush_4], by rw [nLst_55, mPush_55]⟩
  rw [p1, xb_some]
  exact li
theorem r_154 {M : xMem} {b d p sc tok0 : Nat} {t : List Nat} {r : List qI} {L : qL} {v : Int32} (h : nQ M b t r p sc L) (h4 : M.1 b 4 = -1) (hp : p ≤ nT t) (hr : r.length ≤ 200) (h5 : (L 5).length < 64) : nRs M b t (qsBody (kT t) d r tok0 sc (.inr (p, L))) (f_N_function_154 b (nI d) v M) := by
  have hT := nT_le t
  have le := pS_lt t p h.1.1.2.1
  have le1 := pS_lt t (p + 1) h.1.1.2.1
  have e1 : nI d + 1 = nI (d + 1) := nI_1 d
  unfold f_N_function_154 qsBody
  dsimp only
  have key : ∀ {M1 : xMem} {p' : Nat} {L' : qL}, nQ M1 b t r p' sc L' → (L' 5).length < 64 → ∃ M', (xbind (f_N_push b 9 (nI d) 0 0 M1) fun r49 M => xbind (f_N_lists b (nI d + 1) 23 M) fun r51 M => some ((), M)) = some ((), M') ∧ nQ M' b t ((1, d + 1, 19, (L' 5).length) :: (9, d, 0, 0) :: r) p' sc (qA 5 (0, tok0 + 1, 0, 0, 0) L') ∧ rF (rGrS b) M1 M' ∧ M'.1 b 4 = M1.1 b 4 ∧ M'.1 b 55 = M1.1 b 55 := by
    intro M1 p' L' hq hl
    obtain ⟨M', u1, u2, u3, u4, u5⟩ := r_out_lists (d := d) (q := tok0 + 1) hq hr hl
    refine ⟨M', ?_, u2, u3, u4, u5⟩
    rw [e1]
    obtain ⟨x, M2, v1, v2⟩ := xbind_some u1
    show xbind (f_N_push b (nI 9) (nI d) (nI 0) (nI 0) M1) _ = _
    rw [v1, xb_some]
    show xbind (f_N_lists b (nI (d + 1)) (nI 23) M2) _ = _
    rw [v2, xb_some]
  by_cases c1 : kT t p = 17
  · rw [if_neg (fun e => e c1)]
    have t1 := g_T t p hp (by omega)
    have tk : f_N_takes b 21 M = some ((), wI M b 7 (nI (p + 1))) := r_takesT (k := 17) h.1 h.2.1 h4 hp c1
    have q1 := h.at (tok' := p + 1)
    have b4 : (wI M b 7 (nI (p + 1))).1 b 4 = -1 := by rw [mI_k (by decide)]; exact h4
    rw [tk, xb_some]
    by_cases c2 : kT t (p + 1) = 18
    · rw [if_neg (fun e => e c2)]
      have tk2 : f_N_takes b 22 (wI M b 7 (nI (p + 1))) = some ((), wI (wI M b 7 (nI (p + 1))) b 7 (nI (p + 2))) := r_takesT (k := 18) q1.1 q1.2.1 b4 t1 c2
      have q2 := q1.at (tok' := p + 2)
      obtain ⟨M', u1, u2, u3, u4, u5⟩ := key q2 h5
      rw [tk2, xb_some]
      exact .inr u1 ((gr_7.trans gr_7).trans u3) (by rw [u5, mI_k (by decide), mI_k (by decide)]) u2 (by rw [u4, mI_k (by decide)]; exact b4)
    · rw [if_pos c2]
      have tk2 : f_N_takes b 22 (wI M b 7 (nI (p + 1))) = some ((), wI (wI M b 7 (nI (p + 1))) b 4 (nI (pS (pLex t) (p + 1)))) := r_takesF (k := 18) q1.1 q1.2.1 b4 t1 (by omega) c2
      have q2 := q1.bad (v := nI (pS (pLex t) (p + 1)))
      obtain ⟨M', u1, u2, u3, u4, u5⟩ := key q2 h5
      rw [tk2, xb_some]
      exact .inl u1 ((gr_7.trans gr_4).trans u3) (by rw [u5, mI_k (by decide), mI_k (by decide)]) (by rw [u4]; simp (disch := omega) only [↓reduceIte, nI_leT, nI_leF, nI_ltT, nI_ltF, nI_eqT, nI_eqF, xin_T, nI_clampT, nI_add, nI_inc, pk_subT, xb_some, xval, xlet, mI_s, mI_n, mI_k, mI_2, mJ_1, mJ_s, mJ_n, mJ_k, mJ_2, mT_1, mT_2, mT_s, mT_n, mT_k, mT_3, mR_1, mR_2, mR_3, bI_0, bI_1, bI_n0, bI_n1, Bool.true_eq_false, Bool.false_eq_true, eq_self, i_0, i_1, i_2, i_3, i_4, i_5, i_6, i_7, i_8, i_9, i_10, i_11, i_12, i_13, i_14, i_15, i_16, i_17, i_18, i_19, i_20, i_21, i_22, i_23, i_24, i_25, i_26, i_27, i_28, i_29, i_30, i_31, i_32, i_33, i_34, i_35, i_36, i_37, i_38, i_39, i_40, i_41, i_42, i_43, i_44, i_45, i_48, i_49, i_57, i_59, i_60, i_61, i_62, i_64, i_97, i_110, i_122, i_123, i_125, i_126, i_127, i_160, i_255, i_300, i_400])
  · rw [if_pos c1]
    have tk : f_N_takes b 21 M = some ((), wI M b 4 (nI (pS (pLex t) p))) := r_takesF (k := 17) h.1 h.2.1 h4 hp (by omega) c1
    have q1 := h.bad (v := nI (pS (pLex t) p))
    have tk2 : f_N_takes b 22 (wI M b 4 (nI (pS (pLex t) p))) = some ((), wI M b 4 (nI (pS (pLex t) p))) := r_takesB (e := pS (pLex t) p) q1.2.1 (by simp (disch := omega) only [↓reduceIte, nI_leT, nI_leF, nI_ltT, nI_ltF, nI_eqT, nI_eqF, xin_T, nI_clampT, nI_add, nI_inc, pk_subT, xb_some, xval, xlet, mI_s, mI_n, mI_k, mI_2, mJ_1, mJ_s, mJ_n, mJ_k, mJ_2, mT_1, mT_2, mT_s, mT_n, mT_k, mT_3, mR_1, mR_2, mR_3, bI_0, bI_1, bI_n0, bI_n1, Bool.true_eq_false, Bool.false_eq_true, eq_self, i_0, i_1, i_2, i_3, i_4, i_5, i_6, i_7, i_8, i_9, i_10, i_11, i_12, i_13, i_14, i_15, i_16, i_17, i_18, i_19, i_20, i_21, i_22, i_23, i_24, i_25, i_26, i_27, i_28, i_29, i_30, i_31, i_32, i_33, i_34, i_35, i_36, i_37, i_38, i_39, i_40, i_41, i_42, i_43, i_44, i_45, i_48, i_49, i_57, i_59, i_60, i_61, i_62, i_64, i_97, i_110, i_122, i_123, i_125, i_126, i_127, i_160, i_255, i_300, i_400]) le (by omega)
    obtain ⟨M', u1, u2, u3, u4, u5⟩ := key q1 h5
    rw [tk, xb_some, tk2, xb_some]
    exact .inl u1 (gr_4.trans u3) (by rw [u5, mI_k (by decide)]) (by rw [u4]; simp (disch := omega) only [↓reduceIte, nI_leT, nI_leF, nI_ltT, nI_ltF, nI_eqT, nI_eqF, xin_T, nI_clampT, nI_add, nI_inc, pk_subT, xb_some, xval, xlet, mI_s, mI_n, mI_k, mI_2, mJ_1, mJ_s, mJ_n, mJ_k, mJ_2, mT_1, mT_2, mT_s, mT_n, mT_k, mT_3, mR_1, mR_2, mR_3, bI_0, bI_1, bI_n0, bI_n1, Bool.true_eq_false, Bool.false_eq_true, eq_self, i_0, i_1, i_2, i_3, i_4, i_5, i_6, i_7, i_8, i_9, i_10, i_11, i_12, i_13, i_14, i_15, i_16, i_17, i_18, i_19, i_20, i_21, i_22, i_23, i_24, i_25, i_26, i_27, i_28, i_29, i_30, i_31, i_32, i_33, i_34, i_35, i_36, i_37, i_38, i_39, i_40, i_41, i_42, i_43, i_44, i_45, i_48, i_49, i_57, i_59, i_60, i_61, i_62, i_64, i_97, i_110, i_122, i_123, i_125, i_126, i_127, i_160, i_255, i_300, i_400])
/-- where it is wrong already, the rest of a fn changes nothing that counts -/
theorem r_154B {M : xMem} {b d p sc e : Nat} {t : List Nat} {r : List qI} {L : qL} {v : Int32} (h : nQ M b t r p sc L) (h4 : M.1 b 4 = nI e) (he : e ≤ 160) (hp : p ≤ 60) (hr : r.length ≤ 200) (h5 : (L 5).length < 64) : ∃ M', f_N_function_154 b (nI d) v M = some ((), M') ∧ rF (rGrS b) M M' ∧ M'.1 b 4 = nI e ∧ M'.1 b 55 = M.1 b 55 := by
  have tk : ∀ v, f_N_takes b v M = some ((), M) := fun v => r_takesB h.2.1 h4 he hp
  obtain ⟨M', u1, u2, u3, u4, u5⟩ := r_out_lists (d := d) (q := 0) h hr h5
  refine ⟨M', ?_, u3, by rw [u4]; exact h4, u5⟩
  obtain ⟨x, M2, v1, v2⟩ := xbind_some u1
  unfold f_N_function_154
  rw [tk, xb_some, tk, xb_some]
  show xbind (f_N_push b (nI 9) (nI d) (nI 0) (nI 0) M) _ = _
  rw [v1, xb_some, show nI d + 1 = nI (d + 1) from nI_1 d]
  show xbind (f_N_lists b (nI (d + 1)) (nI 23) M2) _ = _
  rw [v2, xb_some]
theorem r_56B {M : xMem} {b d p sc e f : Nat} {t : List Nat} {r : List qI} {L : qL} {v : Int32} (h : nQ M b t r p sc L) (h4 : M.1 b 4 = nI e) (he : e ≤ 160) (hp : p ≤ 60) (hr : r.length ≤ 200) (h5 : (L 5).length < 64) : ∃ M', f_N_function_56 b (nI d) (f + 1) v M = some ((), M') ∧ rF (rGrS b) M M' ∧ M'.1 b 4 = nI e ∧ M'.1 b 55 = M.1 b 55 := by
  rw [f_N_function_56, if_pos (show 0 ≤ M.1 b 4 by rw [h4]; exact nI_le (Nat.zero_le _) (by omega))]
  exact r_154B h h4 he hp hr h5
/-- one more PARAMETER was wrong -/
theorem r_125B {M : xMem} {b d p sc e f n : Nat} {t : List Nat} {r : List qI} {L : qL} (h : nQ M b t r p sc L) (h4 : M.1 b 4 = nI e) (he : e ≤ 160) (hp : p ≤ nT t) (hr : r.length ≤ 200) (h5 : (L 5).length < 64) (hn : n < 100) : ∃ M', f_N_function_125 b (nI d) (f_N_function_56 b (nI d) (f + 1)) (nI n) M = some ((), M') ∧ rF (rGrS b) M M' ∧ M'.1 b 4 = nI e ∧ M'.1 b 55 = M.1 b 55 := by
  have hT := nT_le t
  obtain ⟨M', u⟩ := r_56B (f := f) (d := d) (v := nI (n + 1)) h h4 he (by omega) hr h5
  refine ⟨M', ?_, u.2⟩
  rw [← u.1]
  have wr : ∀ v, f_N_wrongs b v M = some ((), M) := fun v => r_wrongsB h4 he
  unfold f_N_function_125 f_N_function_147 f_N_function_148
  rw [nI_inc]
  by_cases c : nI (n + 1) = 4
  · rw [if_pos c]
    by_cases c17 : kT t p = 17
    · have is : f_N_is b 21 M = some (nI 1, M) := r_isT (k := 17) h.1 h.2.1 hp c17
      rw [is, xb_some, if_neg (by decide), wr, xb_some]
    · have is : f_N_is b 21 M = some (nI 0, M) := r_isF (k := 17) h.1 h.2.1 hp (by omega) c17
      rw [is, xb_some, if_pos (show nI 0 = 0 from rfl), wr, xb_some]
  · rw [if_neg c, wr, xb_some]
