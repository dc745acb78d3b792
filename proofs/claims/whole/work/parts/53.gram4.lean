/-! PURE: the class's grammar goes with the machine: fns, excuses, all STATEMENTS -/
theorem g_par_14 {b : Nat} {t : List Nat} {sc : Nat} : ∀ (m fuel tok : Nat) (mm : Nat → Nat) (M : xMem) (L : qL), m ≤ 4 → m < fuel → tok ≤ nT t → qOk (kT t) mm sc L → mm 1 ≤ tok → mm 14 ≤ tok → mm 0 ≤ tok → rC M b t tok sc L → (∀ e, qPar (kT t) (wT' t) sc m tok L = .inl e → m ≠ 0 → ∃ M', f_P_parameters_14 b fuel (nI (5 - m)) M = some (nI 0, M') ∧ M'.1 (b + 29) 4 = nI e ∧ pFr (b + 8) (b + 30) M M') ∧ (∀ p L', qPar (kT t) (wT' t) sc m tok L = .inr (p, L') → ∃ M', f_P_parameters_14 b fuel (nI (5 - m)) M = some (nI 1, M') ∧ rC M' b t p sc L' ∧ pFr (b + 8) (b + 30) M M') := by
  have hT := nT_le t
  intro m
  induction m with
  | zero =>
    intro fuel tok mm M L _ _ _ _ _ _ _ _
    refine ⟨fun e _ h => absurd rfl h, fun p L' h => ?_⟩
    rw [qPar] at h; cases h
  | succ m ih =>
    intro fuel tok mm M L hm hf ht ok h1 h14 h0 hR
    obtain ⟨f, rfl⟩ : ∃ f, fuel = f + 1 := ⟨fuel - 1, by omega⟩
    have h4 := hR.2.1
    have h5 := hR.2.2.1
    have tk := p_take (k := 23) hR (by omega) (by omega)
    rw [qPar, f_P_parameters_14]
    by_cases c : kT t tok = 23
    · rw [if_pos c] at tk
      rw [if_neg (fun h => h c)]
      have t1 := g_T t tok ht (by omega)
      have r1 := hR.at (tok' := tok + 1)
      have l1 := ok_len1 ok
      have l0 := ok_len0 ok
      have hsc := ok.2.1
      have pl := pLex_len t
      have hlt : tok < (pLex t).length := by unfold nT at t1; omega
      obtain ⟨M1, d1, d2, d3⟩ := p_declare (tok := tok) (k := 4) (sc := sc) (v := 0) r1.1 r1.2.2.2 (by omega) hlt (by omega) (by omega) (by omega) (by rw [if_neg (by omega)]; omega) (g_hb ok (by omega) (by omega))
      rw [if_neg (by omega)] at d1
      have r2 : rC M1 b t (tok + 1) sc (qDecL (wT' t) tok 4 sc L) := r1.th d3 d2
      have fr : pFr (b + 8) (b + 30) M M1 := fr_at.trans (d3.mono (by omega) (by omega))
      have h5' : (wI M (b + 29) 4 (nI (tok + 1))).1 (b + 29) 5 = nI sc := r1.2.2.1
      have nx := p_next r2 (by omega)
      have kl := kT_lt t (tok + 1)
      by_cases c0 : m = 0
      · subst c0
        rw [if_neg (by omega)]
        refine ⟨fun e h => (by cases h), fun p L' h => ?_⟩
        cases h
        refine ⟨M1, ?_, r2, fr⟩
        simp (disch := omega) only [↓reduceIte, nI_leT, nI_leF, nI_ltT, nI_ltF, nI_eqT, nI_eqF, xin_T, nI_clampT, nI_add, nI_inc, pk_subT, xb_some, xval, xlet, mI_s, mI_n, mI_k, mI_2, mJ_1, mJ_s, mJ_n, mJ_k, mJ_2, mT_1, mT_2, mT_s, mT_n, mT_k, mT_3, mR_1, mR_2, mR_3, bI_0, bI_1, bI_n0, bI_n1, Bool.true_eq_false, Bool.false_eq_true, eq_self, i_0, i_1, i_2, i_3, i_4, i_5, i_6, i_7, i_8, i_9, i_10, i_11, i_12, i_13, i_14, i_15, i_16, i_17, i_18, i_19, i_20, i_21, i_22, i_23, i_24, i_25, i_26, i_27, i_28, i_29, i_30, i_31, i_32, i_33, i_34, i_35, i_36, i_37, i_38, i_39, i_40, i_41, i_42, i_43, i_44, i_45, i_48, i_49, i_57, i_59, i_60, i_61, i_62, i_64, i_97, i_110, i_122, i_123, i_125, i_126, i_127, i_160, i_255, i_300, i_400, h4, tk, h5, d1]
      · by_cases c21 : kT t (tok + 1) = 21
        · rw [if_pos ⟨c0, c21⟩]
          have t2 := g_T t (tok + 1) t1 (by omega)
          have ok2 := (ok_dec (wd := wT' t) (tok := tok) (sort := 4) ok h1 h14 c (by omega)).1
          have ih' := ih f (tok + 2) _ (wI M1 (b + 29) 4 (nI (tok + 2))) (qDecL (wT' t) tok 4 sc L) (by omega) (by omega) t2 ok2 (by simp) (by simp) (by simp; omega) (r2.at (tok' := tok + 2))
          have at2 := r2.2.1
          rw [c21] at nx
          have k21 : (21 : Nat) < 28 := by omega
          have hm' : 5 - (m + 1) + 1 = 5 - m := by omega
          have o : f_P_parameters_14 b (f + 1) (nI (5 - (m + 1))) M = f_P_parameters_14 b f (nI (5 - m)) (wI M1 (b + 29) 4 (nI (tok + 2))) := by
            rw [f_P_parameters_14]
            simp (disch := omega) only [↓reduceIte, nI_leT, nI_leF, nI_ltT, nI_ltF, nI_eqT, nI_eqF, xin_T, nI_clampT, nI_add, nI_inc, pk_subT, xb_some, xval, xlet, mI_s, mI_n, mI_k, mI_2, mJ_1, mJ_s, mJ_n, mJ_k, mJ_2, mT_1, mT_2, mT_s, mT_n, mT_k, mT_3, mR_1, mR_2, mR_3, bI_0, bI_1, bI_n0, bI_n1, Bool.true_eq_false, Bool.false_eq_true, eq_self, i_0, i_1, i_2, i_3, i_4, i_5, i_6, i_7, i_8, i_9, i_10, i_11, i_12, i_13, i_14, i_15, i_16, i_17, i_18, i_19, i_20, i_21, i_22, i_23, i_24, i_25, i_26, i_27, i_28, i_29, i_30, i_31, i_32, i_33, i_34, i_35, i_36, i_37, i_38, i_39, i_40, i_41, i_42, i_43, i_44, i_45, i_48, i_49, i_57, i_59, i_60, i_61, i_62, i_64, i_97, i_110, i_122, i_123, i_125, i_126, i_127, i_160, i_255, i_300, i_400, h4, tk, h5, d1, nx, k21, at2, hm']
          rw [f_P_parameters_14] at o
          rw [o]
          refine ⟨fun e h _ => ?_, fun p L' h => ?_⟩
          · obtain ⟨M', e1, e2, e3⟩ := ih'.1 e h c0
            exact ⟨M', e1, e2, (fr.trans fr_at).trans e3⟩
          · obtain ⟨M', e1, e2, e3⟩ := ih'.2 p L' h
            exact ⟨M', e1, e2, (fr.trans fr_at).trans e3⟩
        · rw [if_neg (fun h => c21 h.2)]
          refine ⟨fun e h => (by cases h), fun p L' h => ?_⟩
          cases h
          refine ⟨M1, ?_, r2, fr⟩
          simp (disch := omega) only [↓reduceIte, nI_leT, nI_leF, nI_ltT, nI_ltF, nI_eqT, nI_eqF, xin_T, nI_clampT, nI_add, nI_inc, pk_subT, xb_some, xval, xlet, mI_s, mI_n, mI_k, mI_2, mJ_1, mJ_s, mJ_n, mJ_k, mJ_2, mT_1, mT_2, mT_s, mT_n, mT_k, mT_3, mR_1, mR_2, mR_3, bI_0, bI_1, bI_n0, bI_n1, Bool.true_eq_false, Bool.false_eq_true, eq_self, i_0, i_1, i_2, i_3, i_4, i_5, i_6, i_7, i_8, i_9, i_10, i_11, i_12, i_13, i_14, i_15, i_16, i_17, i_18, i_19, i_20, i_21, i_22, i_23, i_24, i_25, i_26, i_27, i_28, i_29, i_30, i_31, i_32, i_33, i_34, i_35, i_36, i_37, i_38, i_39, i_40, i_41, i_42, i_43, i_44, i_45, i_48, i_49, i_57, i_59, i_60, i_61, i_62, i_64, i_97, i_110, i_122, i_123, i_125, i_126, i_127, i_160, i_255, i_300, i_400, h4, tk, h5, d1, nx, kl, c21]
    · rw [if_neg c] at tk
      rw [if_pos c]
      refine ⟨fun e h _ => ?_, fun p L' h => by cases h⟩
      cases h
      refine ⟨M, ?_, h4, pFr.rfl⟩
      simp (disch := omega) only [↓reduceIte, nI_leT, nI_leF, nI_ltT, nI_ltF, nI_eqT, nI_eqF, xin_T, nI_clampT, nI_add, nI_inc, pk_subT, xb_some, xval, xlet, mI_s, mI_n, mI_k, mI_2, mJ_1, mJ_s, mJ_n, mJ_k, mJ_2, mT_1, mT_2, mT_s, mT_n, mT_k, mT_3, mR_1, mR_2, mR_3, bI_0, bI_1, bI_n0, bI_n1, Bool.true_eq_false, Bool.false_eq_true, eq_self, i_0, i_1, i_2, i_3, i_4, i_5, i_6, i_7, i_8, i_9, i_10, i_11, i_12, i_13, i_14, i_15, i_16, i_17, i_18, i_19, i_20, i_21, i_22, i_23, i_24, i_25, i_26, i_27, i_28, i_29, i_30, i_31, i_32, i_33, i_34, i_35, i_36, i_37, i_38, i_39, i_40, i_41, i_42, i_43, i_44, i_45, i_48, i_49, i_57, i_59, i_60, i_61, i_62, i_64, i_97, i_110, i_122, i_123, i_125, i_126, i_127, i_160, i_255, i_300, i_400, h4, tk]
theorem g_pars {b : Nat} {t : List Nat} {sc tok : Nat} {mm : Nat → Nat} {M : xMem} {L : qL} (ht : tok ≤ nT t) (ok : qOk (kT t) mm sc L) (h1 : mm 1 ≤ tok) (h14 : mm 14 ≤ tok) (h0 : mm 0 ≤ tok) (hR : rC M b t tok sc L) : (∀ e, qPars (kT t) (wT' t) sc tok L = .inl e → ∃ M', f_P_parameters b M = some (nI 0, M') ∧ M'.1 (b + 29) 4 = nI e ∧ pFr (b + 8) (b + 30) M M') ∧ (∀ p L', qPars (kT t) (wT' t) sc tok L = .inr (p, L') → ∃ M', f_P_parameters b M = some (nI 1, M') ∧ rC M' b t p sc L' ∧ pFr (b + 8) (b + 30) M M') := by
  have hT := nT_le t
  have nx := p_next hR (by omega)
  have kl := kT_lt t tok
  have g := g_par_14 4 2000 tok mm M L (by omega) (by omega) ht ok h1 h14 h0 hR
  unfold qPars f_P_parameters
  by_cases c : kT t tok = 17
  · rw [if_pos c]
    refine ⟨fun e h => (by cases h), fun p L' h => ?_⟩
    cases h
    refine ⟨M, ?_, hR, pFr.rfl⟩
    rw [c] at nx
    have k17 : (17 : Nat) < 28 := by omega
    simp (disch := omega) only [↓reduceIte, nI_leT, nI_leF, nI_ltT, nI_ltF, nI_eqT, nI_eqF, xin_T, nI_clampT, nI_add, nI_inc, pk_subT, xb_some, xval, xlet, mI_s, mI_n, mI_k, mI_2, mJ_1, mJ_s, mJ_n, mJ_k, mJ_2, mT_1, mT_2, mT_s, mT_n, mT_k, mT_3, mR_1, mR_2, mR_3, bI_0, bI_1, bI_n0, bI_n1, Bool.true_eq_false, Bool.false_eq_true, eq_self, i_0, i_1, i_2, i_3, i_4, i_5, i_6, i_7, i_8, i_9, i_10, i_11, i_12, i_13, i_14, i_15, i_16, i_17, i_18, i_19, i_20, i_21, i_22, i_23, i_24, i_25, i_26, i_27, i_28, i_29, i_30, i_31, i_32, i_33, i_34, i_35, i_36, i_37, i_38, i_39, i_40, i_41, i_42, i_43, i_44, i_45, i_48, i_49, i_57, i_59, i_60, i_61, i_62, i_64, i_97, i_110, i_122, i_123, i_125, i_126, i_127, i_160, i_255, i_300, i_400, nx, k17]
  · rw [if_neg c]
    have o : (xbind (f_P_next b M) fun r26 M => if r26 < 28 then if r26 = 17 then (some (1, M)) else (f_P_parameters_14 b xFuel 1 M) else none) = f_P_parameters_14 b 2000 (nI (5 - 4)) M := by
      simp (disch := omega) only [↓reduceIte, nI_leT, nI_leF, nI_ltT, nI_ltF, nI_eqT, nI_eqF, xin_T, nI_clampT, nI_add, nI_inc, pk_subT, xb_some, xval, xlet, mI_s, mI_n, mI_k, mI_2, mJ_1, mJ_s, mJ_n, mJ_k, mJ_2, mT_1, mT_2, mT_s, mT_n, mT_k, mT_3, mR_1, mR_2, mR_3, bI_0, bI_1, bI_n0, bI_n1, Bool.true_eq_false, Bool.false_eq_true, eq_self, i_0, i_1, i_2, i_3, i_4, i_5, i_6, i_7, i_8, i_9, i_10, i_11, i_12, i_13, i_14, i_15, i_16, i_17, i_18, i_19, i_20, i_21, i_22, i_23, i_24, i_25, i_26, i_27, i_28, i_29, i_30, i_31, i_32, i_33, i_34, i_35, i_36, i_37, i_38, i_39, i_40, i_41, i_42, i_43, i_44, i_45, i_48, i_49, i_57, i_59, i_60, i_61, i_62, i_64, i_97, i_110, i_122, i_123, i_125, i_126, i_127, i_160, i_255, i_300, i_400, nx, kl, c]
      rfl
    rw [o]
    exact ⟨fun e h => g.1 e h (by omega), g.2⟩
theorem g_fn {b : Nat} {t : List Nat} {rc : Nat → Int32 → Int32 → Int32 → xMem → Option (Int32 × xMem)} {n : Nat} (hL : sLst b t rc n) {d a how tok sc : Nat} {M : xMem} {L : qL} {rest : List qI} (hn : 7 * (12 - d) + 5 ≤ n) (hd : d ≤ 12) (hh : ¬ (how % 2 = 1 ∧ kT t tok ≤ 3)) (hk : kT t tok = 3) (hW : gW t ((2, d, a, how) :: rest, tok, sc, L)) (hR : rC M b t tok sc (qNote a tok (kT t tok) L)) : gMid b t rest d a how tok sc L M (f_P_function rc b (nI d) M) := by
  have ht := hW.tok
  have t1 := g_T t tok ht.1 (by omega)
  have hT := nT_le t
  have h4 := hR.2.1
  have ok := hW.note (k := kT t tok)
  have r1 := hR.at (tok' := tok + 1)
  have tk := p_take (k := 23) r1 (by omega) (by omega)
  have es : qStep (kT t) (wT' t) (dT t) ((2, d, a, how) :: rest, tok, sc, L) = qsFn (kT t) (wT' t) d rest tok sc (qNote a tok (kT t tok) L) := by
    rw [g_stat]; unfold qStat
    rw [if_neg (by omega), if_neg (by omega), if_neg (by omega), if_pos hk]
  unfold gMid
  generalize hL1 : qNote a tok (kT t tok) L = L1 at *
  unfold f_P_function
  by_cases c : kT t (tok + 1) = 23
  · rw [if_pos c] at tk
    have t2 := g_T t (tok + 1) t1 (by omega)
    have r2 := r1.at (tok' := tok + 2)
    have l1 := ok_len1 ok
    have l0 := ok_len0 ok
    have l1 : (L1 1).length ≤ tok := l1
    have l0 : (L1 0).length ≤ tok + 1 := l0
    have hsc := ok.2.1
    have pl := pLex_len t
    have hlt : tok + 1 < (pLex t).length := by unfold nT at t2; omega
    obtain ⟨M1, d1, d2, d3⟩ := p_declare (tok := tok + 1) (k := 3) (sc := sc) (v := 0) r2.1 r2.2.2.2 (by omega) hlt (by omega) (by omega) (by omega) (by rw [if_neg (by omega)]; omega) (g_hb ok (by show tok ≤ 100; omega) (by omega))
    rw [if_neg (by omega)] at d1
    have okd := (ok_dec (wd := wT' t) (tok := tok + 1) (sort := 3) ok (by show tok ≤ tok + 1; omega) (by show tok ≤ tok + 1; omega) c (by omega)).1
    have oko := ok_open (fn := 1) (p := tok + 1) okd (by show tok < tok + 1; omega) (by omega)
    have r3 : rC M1 b t (tok + 2) sc (qDecL (wT' t) (tok + 1) 3 sc L1) := r2.th d3 d2
    have e00 : (qDecL (wT' t) (tok + 1) 3 sc L1) 0 = L1 0 := q_dec_at (by decide) (by decide)
    have e55 : (qDecL (wT' t) (tok + 1) 3 sc L1) 5 = L1 5 := q_dec_5
    have e44 : (qDecL (wT' t) (tok + 1) 3 sc L1) 4 = L1 4 := q_dec_4
    have es2 : kT t (tok + 2) = 16 → qStep (kT t) (wT' t) (dT t) ((2, d, a, how) :: rest, tok, sc, L) = qsBody (kT t) d rest tok ((qDecL (wT' t) (tok + 1) 3 sc L1) 0).length (qPars (kT t) (wT' t) ((qDecL (wT' t) (tok + 1) 3 sc L1) 0).length (tok + 3) (qOpen 1 (tok + 1) sc (qDecL (wT' t) (tok + 1) 3 sc L1))) := by
      intro h; rw [es]; unfold qsFn; rw [if_neg (by omega), if_neg (by omega)]
    have es3 : kT t (tok + 2) ≠ 16 → qStep (kT t) (wT' t) (dT t) ((2, d, a, how) :: rest, tok, sc, L) = .inl (tok + 2) := by
      intro h; rw [es]; unfold qsFn; rw [if_neg (by omega), if_pos h]
    generalize hL2 : qDecL (wT' t) (tok + 1) 3 sc L1 = L2 at *
    have op := p_S_open (s := sc) (fn := 1) r3.2.2.2.1 (by rw [e00]; exact hsc) (by rw [e00]; omega) (by omega)
    have ro := (mOpen_rC (s := sc) (fn := 1) (p := tok + 1) r3).sc (sc' := (L2 0).length)
    generalize hMo : wI (mOpen M1 b (L2 0).length sc (if 1 = 1 then (L2 0).length else (qg (L2 0) sc).2.2.1) ((qg (L2 0) sc).2.2.2.1 + 1)) (b + 29) 5 (nI (L2 0).length) = Mo at *
    have fo : pFr (b + 8) (b + 30) M Mo := by
      rw [← hMo]
      exact (((fr_at.trans fr_at).trans (d3.mono (by omega) (by omega))).trans (mOpen_fr.mono (by omega) (by omega))).trans fr_at
    have h5 := r3.2.2.1
    have h5a := hR.2.2.1
    /- up to the SCOPE that begins -/
    have o : f_P_function rc b (nI d) M = (xbind (f_P_take b 16 Mo) fun r33 M => if r33 = 0 then (f_P_function_120 rc b (nI d) (nI (tok + 1)) (nI sc) M) else (xbind (f_P_parameters b M) fun r36 M => if r36 = 0 then (f_P_function_120 rc b (nI d) (nI (tok + 1)) (nI sc) M) else (xbind (f_P_take b 17 M) fun r39 M => if r39 = 0 then (f_P_function_120 rc b (nI d) (nI (tok + 1)) (nI sc) M) else (xbind (f_P_take b 18 M) fun r42 M => if r42 = 0 then (f_P_function_120 rc b (nI d) (nI (tok + 1)) (nI sc) M) else (xbind (rc 0 (nI (d + 1)) (nI 0) (nI 0) M) fun r M => if r = 0 then (f_P_function_121 rc b (nI d) (nI (tok + 1)) (nI sc) 0 M) else (xbind (f_P_take b 19 M) fun r21 M => if r21 = 0 then (f_P_function_121 rc b (nI d) (nI (tok + 1)) (nI sc) 0 M) else (f_P_function_121 rc b (nI d) (nI (tok + 1)) (nI sc) 1 M))))))) := by
      unfold f_P_function
      rw [show M.1 (b + 29) 4 + 1 = nI (tok + 1) from by rw [h4]; exact nI_1 tok]
      show xbind (f_P_take b 23 (wI M (b + 29) 4 (nI (tok + 1)))) _ = _
      rw [tk, xb_some, if_neg (by decide)]
      show xbind (f_B_declare b ((wI M (b + 29) 4 (nI (tok + 1))).1 (b + 29) 4) 3 ((wI (wI M (b + 29) 4 (nI (tok + 1))) (b + 29) 4 (nI (tok + 1 + 1))).1 (b + 29) 5) 0 (wI (wI M (b + 29) 4 (nI (tok + 1))) (b + 29) 4 (nI (tok + 1 + 1)))) _ = _
      rw [show (wI M (b + 29) 4 (nI (tok + 1))).1 (b + 29) 4 = nI (tok + 1) from r1.2.1, show (wI (wI M (b + 29) 4 (nI (tok + 1))) (b + 29) 4 (nI (tok + 1 + 1))).1 (b + 29) 5 = nI sc from r2.2.2.1]
      have d1' : f_B_declare b (nI (tok + 1)) 3 (nI sc) 0 (wI (wI M (b + 29) 4 (nI (tok + 1))) (b + 29) 4 (nI (tok + 1 + 1))) = some ((), M1) := d1
      rw [d1', xb_some]
      show xbind (f_S_open b (M1.1 (b + 29) 5) 1 M1) _ = _
      rw [h5]
      have op' : f_S_open b (nI sc) 1 M1 = some (nI (L2 0).length, mOpen M1 b (L2 0).length sc (if 1 = 1 then (L2 0).length else (qg (L2 0) sc).2.2.1) ((qg (L2 0) sc).2.2.2.1 + 1)) := op
      rw [op', xb_some]
      show xbind (f_P_take b 16 (wI (mOpen M1 b (L2 0).length sc (if 1 = 1 then (L2 0).length else (qg (L2 0) sc).2.2.1) ((qg (L2 0) sc).2.2.2.1 + 1)) (b + 29) 5 (nI (L2 0).length))) _ = _
      rw [hMo, show nI d + 1 = nI (d + 1) from nI_1 d]
      rfl
    unfold f_P_function at o
    rw [o]
    have kx : ∀ M : xMem, f_P_function_120 rc b (nI d) (nI (tok + 1)) (nI sc) M = some (nI 0, wI M (b + 29) 5 (nI sc)) := by
      intro M
      unfold f_P_function_120 f_P_function_121
      simp (disch := omega) only [↓reduceIte, nI_leT, nI_leF, nI_ltT, nI_ltF, nI_eqT, nI_eqF, xin_T, nI_clampT, nI_add, nI_inc, pk_subT, xb_some, xval, xlet, mI_s, mI_n, mI_k, mI_2, mJ_1, mJ_s, mJ_n, mJ_k, mJ_2, mT_1, mT_2, mT_s, mT_n, mT_k, mT_3, mR_1, mR_2, mR_3, bI_0, bI_1, bI_n0, bI_n1, Bool.true_eq_false, Bool.false_eq_true, eq_self, i_0, i_1, i_2, i_3, i_4, i_5, i_6, i_7, i_8, i_9, i_10, i_11, i_12, i_13, i_14, i_15, i_16, i_17, i_18, i_19, i_20, i_21, i_22, i_23, i_24, i_25, i_26, i_27, i_28, i_29, i_30, i_31, i_32, i_33, i_34, i_35, i_36, i_37, i_38, i_39, i_40, i_41, i_42, i_43, i_44, i_45, i_48, i_49, i_57, i_59, i_60, i_61, i_62, i_64, i_97, i_110, i_122, i_123, i_125, i_126, i_127, i_160, i_255, i_300, i_400, xnarB0]
    have tk2 := p_take (k := 16) ro (by omega) (by omega)
    by_cases c16 : kT t (tok + 2) = 16
    · rw [if_pos c16] at tk2
      have t3 := g_T t (tok + 2) t2 (by omega)
      have r5 := ro.at (tok' := tok + 3)
      have f5 : pFr (b + 8) (b + 30) M (wI Mo (b + 29) 4 (nI (tok + 3))) := fo.trans fr_at
      obtain ⟨g1, g2⟩ := g_pars (M := wI Mo (b + 29) 4 (nI (tok + 3))) t3 oko (by simp) (by simp) (by simp) r5
      cases hq : qPars (kT t) (wT' t) (L2 0).length (tok + 3) (qOpen 1 (tok + 1) sc L2) with
      | inl e =>
        obtain ⟨M2, u1, u2, u3⟩ := g1 e hq
        refine .inr ⟨wI M2 (b + 29) 5 (nI sc), e, ?_, gTo.one ?_, (f5.trans u3).trans fr_at, ?_⟩
        · simp (disch := omega) only [↓reduceIte, nI_leT, nI_leF, nI_ltT, nI_ltF, nI_eqT, nI_eqF, xin_T, nI_clampT, nI_add, nI_inc, pk_subT, xb_some, xval, xlet, mI_s, mI_n, mI_k, mI_2, mJ_1, mJ_s, mJ_n, mJ_k, mJ_2, mT_1, mT_2, mT_s, mT_n, mT_k, mT_3, mR_1, mR_2, mR_3, bI_0, bI_1, bI_n0, bI_n1, Bool.true_eq_false, Bool.false_eq_true, eq_self, i_0, i_1, i_2, i_3, i_4, i_5, i_6, i_7, i_8, i_9, i_10, i_11, i_12, i_13, i_14, i_15, i_16, i_17, i_18, i_19, i_20, i_21, i_22, i_23, i_24, i_25, i_26, i_27, i_28, i_29, i_30, i_31, i_32, i_33, i_34, i_35, i_36, i_37, i_38, i_39, i_40, i_41, i_42, i_43, i_44, i_45, i_48, i_49, i_57, i_59, i_60, i_61, i_62, i_64, i_97, i_110, i_122, i_123, i_125, i_126, i_127, i_160, i_255, i_300, i_400, tk2, u1, kx]
        · rw [es2 c16, hq]; rfl
        · simp (disch := omega) only [↓reduceIte, nI_leT, nI_leF, nI_ltT, nI_ltF, nI_eqT, nI_eqF, xin_T, nI_clampT, nI_add, nI_inc, pk_subT, xb_some, xval, xlet, mI_s, mI_n, mI_k, mI_2, mJ_1, mJ_s, mJ_n, mJ_k, mJ_2, mT_1, mT_2, mT_s, mT_n, mT_k, mT_3, mR_1, mR_2, mR_3, bI_0, bI_1, bI_n0, bI_n1, Bool.true_eq_false, Bool.false_eq_true, eq_self, i_0, i_1, i_2, i_3, i_4, i_5, i_6, i_7, i_8, i_9, i_10, i_11, i_12, i_13, i_14, i_15, i_16, i_17, i_18, i_19, i_20, i_21, i_22, i_23, i_24, i_25, i_26, i_27, i_28, i_29, i_30, i_31, i_32, i_33, i_34, i_35, i_36, i_37, i_38, i_39, i_40, i_41, i_42, i_43, i_44, i_45, i_48, i_49, i_57, i_59, i_60, i_61, i_62, i_64, i_97, i_110, i_122, i_123, i_125, i_126, i_127, i_160, i_255, i_300, i_400, u2]
      | inr x =>
        obtain ⟨p, L4⟩ := x
        obtain ⟨M2, u1, u2, u3⟩ := g2 p L4 hq
        have hp := (q_pars_T (wd := wT' t) (sc := (L2 0).length) (L := qOpen 1 (tok + 1) sc L2) (g_T t) t3).2 p L4 hq
        have f6 := f5.trans u3
        have tk3 := p_take (k := 17) u2 (by omega) (by omega)
        have e40 := q_pars_45 (g := 0) (by decide) (by decide) hq
        have e44' := q_pars_45 (g := 4) (by decide) (by decide) hq
        have e45 := q_pars_45 (g := 5) (by decide) (by decide) hq
        rw [q_open_4, e44] at e44'
        rw [q_open_5, e55] at e45
        have e40' : L4 0 = L2 0 ++ [(sc, 1, (L2 0).length, (qg (L2 0) sc).2.2.2.1 + 1, tok + 1)] := e40
        by_cases c17 : kT t p = 17
        · rw [if_pos c17] at tk3
          have t5 := g_T t p hp.1 (by omega)
          have r7 := u2.at (tok' := p + 1)
          have tk4 := p_take (k := 18) r7 (by omega) (by omega)
          by_cases c18 : kT t (p + 1) = 18
          · rw [if_pos c18] at tk4
            have r8 := r7.at (tok' := p + 2)
            have st : gTo t ((2, d, a, how) :: rest, tok, sc, L) (.inr (qList (d + 1) 19 tok ((9, d, 0, 0) :: rest) (p + 2) (L2 0).length L4)) := gTo.one (by
              rw [es2 c16, hq]
              unfold qsBody; dsimp only
              rw [if_neg (by omega), if_neg (by omega)])
            have gb : gKp 0 L1 L4 := by
              refine ⟨⟨by rw [e45]; exact Nat.le_refl _, fun i _ _ => by rw [e45]⟩, ⟨by rw [e44']; exact Nat.le_refl _, fun i _ => by rw [e44']⟩, ⟨by rw [e40', e00]; simp, fun i hi => by rw [e40', e00, qg_lt hi]⟩⟩
            have bo := g_body (k := fun w M => f_P_function_121 rc b (nI d) (nI (tok + 1)) (nI sc) w M) hL (fun w M => rfl) hn hd (hW.to st) (by rw [e40']; simp) (by rw [e40', qg_eq]) st ((f6.trans fr_at).trans fr_at) (by omega) gb r8
            have o2 : (xbind (f_P_take b 16 Mo) fun r33 M => if r33 = 0 then (f_P_function_120 rc b (nI d) (nI (tok + 1)) (nI sc) M) else (xbind (f_P_parameters b M) fun r36 M => if r36 = 0 then (f_P_function_120 rc b (nI d) (nI (tok + 1)) (nI sc) M) else (xbind (f_P_take b 17 M) fun r39 M => if r39 = 0 then (f_P_function_120 rc b (nI d) (nI (tok + 1)) (nI sc) M) else (xbind (f_P_take b 18 M) fun r42 M => if r42 = 0 then (f_P_function_120 rc b (nI d) (nI (tok + 1)) (nI sc) M) else (xbind (rc 0 (nI (d + 1)) (nI 0) (nI 0) M) fun r M => if r = 0 then (f_P_function_121 rc b (nI d) (nI (tok + 1)) (nI sc) 0 M) else (xbind (f_P_take b 19 M) fun r21 M => if r21 = 0 then (f_P_function_121 rc b (nI d) (nI (tok + 1)) (nI sc) 0 M) else (f_P_function_121 rc b (nI d) (nI (tok + 1)) (nI sc) 1 M))))))) = (xbind (rc 0 (nI (d + 1)) (nI 0) (nI 0) (wI (wI M2 (b + 29) 4 (nI (p + 1))) (b + 29) 4 (nI (p + 2)))) fun r M => if r = 0 then (f_P_function_121 rc b (nI d) (nI (tok + 1)) (nI sc) 0 M) else (xbind (f_P_take b 19 M) fun r21 M => if r21 = 0 then (f_P_function_121 rc b (nI d) (nI (tok + 1)) (nI sc) 0 M) else (f_P_function_121 rc b (nI d) (nI (tok + 1)) (nI sc) 1 M))) := by
              rw [tk2, xb_some, if_neg (by decide)]
              show xbind (f_P_parameters b (wI Mo (b + 29) 4 (nI (tok + 3)))) _ = _
              rw [u1, xb_some, if_neg (by decide), tk3, xb_some, if_neg (by decide), tk4, xb_some, if_neg (by decide)]
            rw [o2]; exact bo
          · rw [if_neg c18] at tk4
            refine .inr ⟨wI (wI M2 (b + 29) 4 (nI (p + 1))) (b + 29) 5 (nI sc), p + 1, ?_, gTo.one ?_, (f6.trans fr_at).trans fr_at, ?_⟩
            · simp (disch := omega) only [↓reduceIte, nI_leT, nI_leF, nI_ltT, nI_ltF, nI_eqT, nI_eqF, xin_T, nI_clampT, nI_add, nI_inc, pk_subT, xb_some, xval, xlet, mI_s, mI_n, mI_k, mI_2, mJ_1, mJ_s, mJ_n, mJ_k, mJ_2, mT_1, mT_2, mT_s, mT_n, mT_k, mT_3, mR_1, mR_2, mR_3, bI_0, bI_1, bI_n0, bI_n1, Bool.true_eq_false, Bool.false_eq_true, eq_self, i_0, i_1, i_2, i_3, i_4, i_5, i_6, i_7, i_8, i_9, i_10, i_11, i_12, i_13, i_14, i_15, i_16, i_17, i_18, i_19, i_20, i_21, i_22, i_23, i_24, i_25, i_26, i_27, i_28, i_29, i_30, i_31, i_32, i_33, i_34, i_35, i_36, i_37, i_38, i_39, i_40, i_41, i_42, i_43, i_44, i_45, i_48, i_49, i_57, i_59, i_60, i_61, i_62, i_64, i_97, i_110, i_122, i_123, i_125, i_126, i_127, i_160, i_255, i_300, i_400, tk2, u1, tk3, tk4, kx]
            · rw [es2 c16, hq]
              unfold qsBody; dsimp only
              rw [if_neg (by omega), if_pos c18]
            · simp (disch := omega) only [↓reduceIte, nI_leT, nI_leF, nI_ltT, nI_ltF, nI_eqT, nI_eqF, xin_T, nI_clampT, nI_add, nI_inc, pk_subT, xb_some, xval, xlet, mI_s, mI_n, mI_k, mI_2, mJ_1, mJ_s, mJ_n, mJ_k, mJ_2, mT_1, mT_2, mT_s, mT_n, mT_k, mT_3, mR_1, mR_2, mR_3, bI_0, bI_1, bI_n0, bI_n1, Bool.true_eq_false, Bool.false_eq_true, eq_self, i_0, i_1, i_2, i_3, i_4, i_5, i_6, i_7, i_8, i_9, i_10, i_11, i_12, i_13, i_14, i_15, i_16, i_17, i_18, i_19, i_20, i_21, i_22, i_23, i_24, i_25, i_26, i_27, i_28, i_29, i_30, i_31, i_32, i_33, i_34, i_35, i_36, i_37, i_38, i_39, i_40, i_41, i_42, i_43, i_44, i_45, i_48, i_49, i_57, i_59, i_60, i_61, i_62, i_64, i_97, i_110, i_122, i_123, i_125, i_126, i_127, i_160, i_255, i_300, i_400]
        · rw [if_neg c17] at tk3
          refine .inr ⟨wI M2 (b + 29) 5 (nI sc), p, ?_, gTo.one ?_, f6.trans fr_at, ?_⟩
          · simp (disch := omega) only [↓reduceIte, nI_leT, nI_leF, nI_ltT, nI_ltF, nI_eqT, nI_eqF, xin_T, nI_clampT, nI_add, nI_inc, pk_subT, xb_some, xval, xlet, mI_s, mI_n, mI_k, mI_2, mJ_1, mJ_s, mJ_n, mJ_k, mJ_2, mT_1, mT_2, mT_s, mT_n, mT_k, mT_3, mR_1, mR_2, mR_3, bI_0, bI_1, bI_n0, bI_n1, Bool.true_eq_false, Bool.false_eq_true, eq_self, i_0, i_1, i_2, i_3, i_4, i_5, i_6, i_7, i_8, i_9, i_10, i_11, i_12, i_13, i_14, i_15, i_16, i_17, i_18, i_19, i_20, i_21, i_22, i_23, i_24, i_25, i_26, i_27, i_28, i_29, i_30, i_31, i_32, i_33, i_34, i_35, i_36, i_37, i_38, i_39, i_40, i_41, i_42, i_43, i_44, i_45, i_48, i_49, i_57, i_59, i_60, i_61, i_62, i_64, i_97, i_110, i_122, i_123, i_125, i_126, i_127, i_160, i_255, i_300, i_400, tk2, u1, tk3, kx]
          · rw [es2 c16, hq]
            unfold qsBody; dsimp only
            rw [if_pos c17]
          · have := u2.2.1
            simp (disch := omega) only [↓reduceIte, nI_leT, nI_leF, nI_ltT, nI_ltF, nI_eqT, nI_eqF, xin_T, nI_clampT, nI_add, nI_inc, pk_subT, xb_some, xval, xlet, mI_s, mI_n, mI_k, mI_2, mJ_1, mJ_s, mJ_n, mJ_k, mJ_2, mT_1, mT_2, mT_s, mT_n, mT_k, mT_3, mR_1, mR_2, mR_3, bI_0, bI_1, bI_n0, bI_n1, Bool.true_eq_false, Bool.false_eq_true, eq_self, i_0, i_1, i_2, i_3, i_4, i_5, i_6, i_7, i_8, i_9, i_10, i_11, i_12, i_13, i_14, i_15, i_16, i_17, i_18, i_19, i_20, i_21, i_22, i_23, i_24, i_25, i_26, i_27, i_28, i_29, i_30, i_31, i_32, i_33, i_34, i_35, i_36, i_37, i_38, i_39, i_40, i_41, i_42, i_43, i_44, i_45, i_48, i_49, i_57, i_59, i_60, i_61, i_62, i_64, i_97, i_110, i_122, i_123, i_125, i_126, i_127, i_160, i_255, i_300, i_400, this]
    · rw [if_neg c16] at tk2
      refine .inr ⟨wI Mo (b + 29) 5 (nI sc), tok + 2, ?_, gTo.one (es3 c16), fo.trans fr_at, ?_⟩
      · simp (disch := omega) only [↓reduceIte, nI_leT, nI_leF, nI_ltT, nI_ltF, nI_eqT, nI_eqF, xin_T, nI_clampT, nI_add, nI_inc, pk_subT, xb_some, xval, xlet, mI_s, mI_n, mI_k, mI_2, mJ_1, mJ_s, mJ_n, mJ_k, mJ_2, mT_1, mT_2, mT_s, mT_n, mT_k, mT_3, mR_1, mR_2, mR_3, bI_0, bI_1, bI_n0, bI_n1, Bool.true_eq_false, Bool.false_eq_true, eq_self, i_0, i_1, i_2, i_3, i_4, i_5, i_6, i_7, i_8, i_9, i_10, i_11, i_12, i_13, i_14, i_15, i_16, i_17, i_18, i_19, i_20, i_21, i_22, i_23, i_24, i_25, i_26, i_27, i_28, i_29, i_30, i_31, i_32, i_33, i_34, i_35, i_36, i_37, i_38, i_39, i_40, i_41, i_42, i_43, i_44, i_45, i_48, i_49, i_57, i_59, i_60, i_61, i_62, i_64, i_97, i_110, i_122, i_123, i_125, i_126, i_127, i_160, i_255, i_300, i_400, tk2, kx]
      · have := ro.2.1
        simp (disch := omega) only [↓reduceIte, nI_leT, nI_leF, nI_ltT, nI_ltF, nI_eqT, nI_eqF, xin_T, nI_clampT, nI_add, nI_inc, pk_subT, xb_some, xval, xlet, mI_s, mI_n, mI_k, mI_2, mJ_1, mJ_s, mJ_n, mJ_k, mJ_2, mT_1, mT_2, mT_s, mT_n, mT_k, mT_3, mR_1, mR_2, mR_3, bI_0, bI_1, bI_n0, bI_n1, Bool.true_eq_false, Bool.false_eq_true, eq_self, i_0, i_1, i_2, i_3, i_4, i_5, i_6, i_7, i_8, i_9, i_10, i_11, i_12, i_13, i_14, i_15, i_16, i_17, i_18, i_19, i_20, i_21, i_22, i_23, i_24, i_25, i_26, i_27, i_28, i_29, i_30, i_31, i_32, i_33, i_34, i_35, i_36, i_37, i_38, i_39, i_40, i_41, i_42, i_43, i_44, i_45, i_48, i_49, i_57, i_59, i_60, i_61, i_62, i_64, i_97, i_110, i_122, i_123, i_125, i_126, i_127, i_160, i_255, i_300, i_400, this]
  · rw [if_neg c] at tk
    refine .inr ⟨_, tok + 1, ?_, gTo.one ?_, fr_at, r1.2.1⟩
    · simp (disch := omega) only [↓reduceIte, nI_leT, nI_leF, nI_ltT, nI_ltF, nI_eqT, nI_eqF, xin_T, nI_clampT, nI_add, nI_inc, pk_subT, xb_some, xval, xlet, mI_s, mI_n, mI_k, mI_2, mJ_1, mJ_s, mJ_n, mJ_k, mJ_2, mT_1, mT_2, mT_s, mT_n, mT_k, mT_3, mR_1, mR_2, mR_3, bI_0, bI_1, bI_n0, bI_n1, Bool.true_eq_false, Bool.false_eq_true, eq_self, i_0, i_1, i_2, i_3, i_4, i_5, i_6, i_7, i_8, i_9, i_10, i_11, i_12, i_13, i_14, i_15, i_16, i_17, i_18, i_19, i_20, i_21, i_22, i_23, i_24, i_25, i_26, i_27, i_28, i_29, i_30, i_31, i_32, i_33, i_34, i_35, i_36, i_37, i_38, i_39, i_40, i_41, i_42, i_43, i_44, i_45, i_48, i_49, i_57, i_59, i_60, i_61, i_62, i_64, i_97, i_110, i_122, i_123, i_125, i_126, i_127, i_160, i_255, i_300, i_400, h4, tk]
    · rw [es]; unfold qsFn; rw [if_pos c]
