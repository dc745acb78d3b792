/-! PURE: the class's grammar goes with the machine: excuses, all STATEMENTS, the PROGRAM -/
theorem pLexN_dig {t : List Nat} : ∀ (m p : Nat) (x : Nat × Nat × Nat), x ∈ pLexN t m p → x.1 = 24 → pDigit (pc t x.2.1) = true := by
  intro m
  induction m with
  | zero =>
    intro p x hx h
    rw [pLexN, List.mem_singleton] at hx
    subst hx
    dsimp only at h
    split at h <;> omega
  | succ m ih =>
    intro p x hx h
    have key : (pTok t p).1 = 24 → pDigit (pc t p) = true := by
      intro h
      unfold pTok at h
      split at h
      · cases h
      split at h
      · have := pKwOf_lt (pOct t p (pScan pWordC t p)); dsimp only at h; omega
      split at h
      · assumption
      split at h
      · dsimp only at h; split at h <;> omega
      · rename_i h1 _ _ _
        have := pSign_end (t := t) (p := p) (by omega); dsimp only at h; omega
    rw [pLexN] at hx
    split at hx
    · rw [List.mem_singleton] at hx
      subst hx; exact key h
    · rcases List.mem_cons.mp hx with hx | hx
      · subst hx; exact key h
      · exact ih _ x hx h
theorem pLex_mem {t : List Nat} {i : Nat} (h : i < (pLex t).length) : (kT t i, pS (pLex t) i, pE (pLex t) i) ∈ pLex t := by
  have : (pLex t).getD i (27, 0, 0) ∈ pLex t := by rw [List.getD_eq_getElem?_getD, List.getElem?_eq_getElem h]; exact List.getElem_mem h
  exact this
theorem p_startOf {M : xMem} {b i : Nat} {t : List Nat} (h : pLx M b t) (hi : i < (pLex t).length) : f_T_startOf b (nI i) M = some (nI (pS (pLex t) i), M) := by
  obtain ⟨h1, h2, h3⟩ := h
  have hl := pLex_len t
  have e := (h3 i hi).2.1
  unfold f_T_startOf f_T_isThere
  simp (disch := omega) only [↓reduceIte, nI_leT, nI_leF, nI_ltT, nI_ltF, nI_eqT, nI_eqF, xin_T, nI_clampT, nI_add, nI_inc, pk_subT, xb_some, xval, xlet, mI_s, mI_n, mI_k, mI_2, mJ_1, mJ_s, mJ_n, mJ_k, mJ_2, mT_1, mT_2, mT_s, mT_n, mT_k, mT_3, mR_1, mR_2, mR_3, bI_0, bI_1, bI_n0, bI_n1, Bool.true_eq_false, Bool.false_eq_true, eq_self, i_0, i_1, i_2, i_3, i_4, i_5, i_6, i_7, i_8, i_9, i_10, i_11, i_12, i_13, i_14, i_15, i_16, i_17, i_18, i_19, i_20, i_21, i_22, i_23, i_24, i_25, i_26, i_27, i_28, i_29, i_30, i_31, i_32, i_33, i_34, i_35, i_36, i_37, i_38, i_39, i_40, i_41, i_42, i_43, i_44, i_45, i_48, i_49, i_57, i_59, i_60, i_61, i_62, i_64, i_97, i_110, i_122, i_123, i_125, i_126, i_127, i_160, i_255, i_300, i_400, h2, e]
theorem p_endOf {M : xMem} {b i : Nat} {t : List Nat} (h : pLx M b t) (hi : i < (pLex t).length) : f_T_endOf b (nI i) M = some (nI (pE (pLex t) i), M) := by
  obtain ⟨h1, h2, h3⟩ := h
  have hl := pLex_len t
  have e := (h3 i hi).2.2.1
  unfold f_T_endOf f_T_isThere
  simp (disch := omega) only [↓reduceIte, nI_leT, nI_leF, nI_ltT, nI_ltF, nI_eqT, nI_eqF, xin_T, nI_clampT, nI_add, nI_inc, pk_subT, xb_some, xval, xlet, mI_s, mI_n, mI_k, mI_2, mJ_1, mJ_s, mJ_n, mJ_k, mJ_2, mT_1, mT_2, mT_s, mT_n, mT_k, mT_3, mR_1, mR_2, mR_3, bI_0, bI_1, bI_n0, bI_n1, Bool.true_eq_false, Bool.false_eq_true, eq_self, i_0, i_1, i_2, i_3, i_4, i_5, i_6, i_7, i_8, i_9, i_10, i_11, i_12, i_13, i_14, i_15, i_16, i_17, i_18, i_19, i_20, i_21, i_22, i_23, i_24, i_25, i_26, i_27, i_28, i_29, i_30, i_31, i_32, i_33, i_34, i_35, i_36, i_37, i_38, i_39, i_40, i_41, i_42, i_43, i_44, i_45, i_48, i_49, i_57, i_59, i_60, i_61, i_62, i_64, i_97, i_110, i_122, i_123, i_125, i_126, i_127, i_160, i_255, i_300, i_400, h2, e]
theorem p_digitOf {M : xMem} {b i : Nat} {t : List Nat} (h : pLx M b t) (hi : i < (pLex t).length) : f_T_digitOf b (nI i) M = if kT t i = 24 ∧ dT t i ≤ 9 then some (nI (dT t i), M) else some (-1, M) := by
  have hl := pLex_len t
  have kn := p_kindOf h (i := i) (by omega)
  have kl := kT_lt t i
  have en := p_endOf h hi
  have sn := p_startOf h hi
  have mem := pLex_mem hi
  obtain ⟨b1, b2, _⟩ := pLex_in t _ mem
  have b1 : pS (pLex t) i ≤ pE (pLex t) i := b1
  have b2 : pE (pLex t) i ≤ t.length := b2
  have h160 := h.1.2.1
  unfold f_T_digitOf f_T_digitOf_30 f_T_digitOf_31
  by_cases c : kT t i = 24
  · have dg : pDigit (pc t (pS (pLex t) i)) = true := pLexN_dig 60 _ _ mem c
    have dg : 48 ≤ pc t (pS (pLex t) i) ∧ pc t (pS (pLex t) i) ≤ 57 := of_decide_eq_true dg
    have la := p_L_at h.1 (j := pS (pLex t) i) (by omega)
    rw [c] at kn
    have k24 : (24 : Nat) < 28 := by omega
    by_cases c1 : pE (pLex t) i - pS (pLex t) i = 1
    · have ed : dT t i = pc t (pS (pLex t) i) - 48 := by unfold dT; rw [if_pos c1]
      rw [if_pos ⟨c, by omega⟩, ed]
      simp (disch := omega) only [↓reduceIte, nI_leT, nI_leF, nI_ltT, nI_ltF, nI_eqT, nI_eqF, xin_T, nI_clampT, nI_add, nI_inc, pk_subT, xb_some, xval, xlet, mI_s, mI_n, mI_k, mI_2, mJ_1, mJ_s, mJ_n, mJ_k, mJ_2, mT_1, mT_2, mT_s, mT_n, mT_k, mT_3, mR_1, mR_2, mR_3, bI_0, bI_1, bI_n0, bI_n1, Bool.true_eq_false, Bool.false_eq_true, eq_self, i_0, i_1, i_2, i_3, i_4, i_5, i_6, i_7, i_8, i_9, i_10, i_11, i_12, i_13, i_14, i_15, i_16, i_17, i_18, i_19, i_20, i_21, i_22, i_23, i_24, i_25, i_26, i_27, i_28, i_29, i_30, i_31, i_32, i_33, i_34, i_35, i_36, i_37, i_38, i_39, i_40, i_41, i_42, i_43, i_44, i_45, i_48, i_49, i_57, i_59, i_60, i_61, i_62, i_64, i_97, i_110, i_122, i_123, i_125, i_126, i_127, i_160, i_255, i_300, i_400, kn, k24, en, sn, c1, la]
    · have ed : dT t i = 10 := by unfold dT; rw [if_neg c1]
      rw [if_neg (by omega)]
      simp (disch := omega) only [↓reduceIte, nI_leT, nI_leF, nI_ltT, nI_ltF, nI_eqT, nI_eqF, xin_T, nI_clampT, nI_add, nI_inc, pk_subT, xb_some, xval, xlet, mI_s, mI_n, mI_k, mI_2, mJ_1, mJ_s, mJ_n, mJ_k, mJ_2, mT_1, mT_2, mT_s, mT_n, mT_k, mT_3, mR_1, mR_2, mR_3, bI_0, bI_1, bI_n0, bI_n1, Bool.true_eq_false, Bool.false_eq_true, eq_self, i_0, i_1, i_2, i_3, i_4, i_5, i_6, i_7, i_8, i_9, i_10, i_11, i_12, i_13, i_14, i_15, i_16, i_17, i_18, i_19, i_20, i_21, i_22, i_23, i_24, i_25, i_26, i_27, i_28, i_29, i_30, i_31, i_32, i_33, i_34, i_35, i_36, i_37, i_38, i_39, i_40, i_41, i_42, i_43, i_44, i_45, i_48, i_49, i_57, i_59, i_60, i_61, i_62, i_64, i_97, i_110, i_122, i_123, i_125, i_126, i_127, i_160, i_255, i_300, i_400, kn, k24, en, sn]
  · rw [if_neg (fun h => c h.1)]
    simp (disch := omega) only [↓reduceIte, nI_leT, nI_leF, nI_ltT, nI_ltF, nI_eqT, nI_eqF, xin_T, nI_clampT, nI_add, nI_inc, pk_subT, xb_some, xval, xlet, mI_s, mI_n, mI_k, mI_2, mJ_1, mJ_s, mJ_n, mJ_k, mJ_2, mT_1, mT_2, mT_s, mT_n, mT_k, mT_3, mR_1, mR_2, mR_3, bI_0, bI_1, bI_n0, bI_n1, Bool.true_eq_false, Bool.false_eq_true, eq_self, i_0, i_1, i_2, i_3, i_4, i_5, i_6, i_7, i_8, i_9, i_10, i_11, i_12, i_13, i_14, i_15, i_16, i_17, i_18, i_19, i_20, i_21, i_22, i_23, i_24, i_25, i_26, i_27, i_28, i_29, i_30, i_31, i_32, i_33, i_34, i_35, i_36, i_37, i_38, i_39, i_40, i_41, i_42, i_43, i_44, i_45, i_48, i_49, i_57, i_59, i_60, i_61, i_62, i_64, i_97, i_110, i_122, i_123, i_125, i_126, i_127, i_160, i_255, i_300, i_400, kn, kl, c]
theorem rC.exc {M : xMem} {b tok sc n p : Nat} {t : List Nat} {L : qL} (h : rC M b t tok sc L) : rC M b t tok sc (qA 4 (n, p, 0, 0, 0) L) := by
  obtain ⟨g1, g2, g3, h1, h2, h3, h4, h5, h6⟩ := h
  refine ⟨g1, g2, g3, h1, h2, h3, h4.to rfl (fun f _ _ => qA_n _ _ (by omega)), ?_, h6⟩
  intro x hx
  refine (h5 x hx).iff ?_
  intro r _
  rw [qA_s]
  constructor
  · intro ⟨e, he, h⟩; exact ⟨e, List.mem_append_left _ he, h⟩
  · intro ⟨e, he, e1, e2, e3⟩
    rcases List.mem_append.mp he with he | he
    · exact ⟨e, he, e1, e2, e3⟩
    · rw [List.mem_singleton] at he; subst he; exact absurd (show x < 0 from e3) (by omega)
theorem qDead_exc {a p : Nat} {x : qE} {L : qL} : qDead a p (qA 4 x L) = qA 4 x (qDead a p L) := by
  unfold qDead
  rw [show (qA 4 x L) 5 = L 5 from rfl]
  split
  · funext g
    rw [qA_at, qA_at, qA_at, qA_at]
    by_cases c : g = 15
    · subst c; rfl
    · rw [if_neg c, if_neg c]
  · rfl
theorem g_excuse {b : Nat} {t : List Nat} {rc : Nat → Int32 → Int32 → Int32 → xMem → Option (Int32 × xMem)} {n : Nat} (hS : sSt b t rc n) {d a how tok sc r2 : Nat} {M : xMem} {L : qL} {rest : List qI} (hn : 7 * (12 - d) + 4 ≤ n) (hd : d ≤ 12) (hk : kT t tok = 22) (hr : r2 = if how % 2 = 0 then 1 else 0) (hW : gW t ((2, d, a, how) :: rest, tok, sc, L)) (hR : rC M b t tok sc (qDead a (qBeh t tok) L)) : gOut b t ((2, d, a, how) :: rest, tok, sc, L) M (f_P_excuse rc b (nI d) (nI r2) M) (gP b t rest tok sc L a) := by
  have ht := hW.tok
  have t1 := g_T t tok ht.1 (by omega)
  have hT := nT_le t
  have h4 := hR.2.1
  have r1 := hR.at (tok' := tok + 1)
  have pl := pLex_len t
  have hlt : tok + 1 < (pLex t).length := by unfold nT at t1; omega
  have dg := p_digitOf r1.1 hlt
  have es : qStep (kT t) (wT' t) (dT t) ((2, d, a, how) :: rest, tok, sc, L) = qsExc (kT t) (dT t) d a how rest tok sc L := by
    rw [g_stat]; unfold qStat
    rw [if_neg (by omega), if_pos hk]
  have hbe : qBeh t tok = qBeh t (tok + 2) := qBeh_at (by omega) hk
  unfold f_P_excuse
  by_cases c : kT t (tok + 1) = 24 ∧ dT t (tok + 1) ≤ 9
  · rw [if_pos c] at dg
    have t2 := g_T t (tok + 1) t1 (by omega)
    have r3 := (r1.at (tok' := tok + 2)).exc (n := dT t (tok + 1)) (p := tok + 2)
    have st : gTo t ((2, d, a, how) :: rest, tok, sc, L) (.inr ((2, d + 1, a, how % 2 + 2) :: (10, d, (L 4).length, 0) :: rest, tok + 2, sc, qA 4 (dT t (tok + 1), tok + 2, 0, 0, 0) L)) := gTo.one (by
      rw [es]; unfold qsExc; rw [if_pos c])
    have fr : pFr (b + 8) (b + 30) M (wI (wI M (b + 29) 4 (nI (tok + 1))) (b + 29) 4 (nI (tok + 2))) := fr_at.trans fr_at
    have e22 : r2 = if (how % 2 + 2) % 2 = 0 then 1 else 0 := by rw [hr]; congr 1; simp
    have i := hS (d + 1) a (how % 2 + 2) 0 r2 (wI (wI M (b + 29) 4 (nI (tok + 1))) (b + 29) 4 (nI (tok + 2))) (tok + 2) sc (qA 4 (dT t (tok + 1), tok + 2, 0, 0, 0) L) ((10, d, (L 4).length, 0) :: rest) (by omega) (by omega) (by rw [if_neg (by omega)]) e22 (hW.to st) (by rw [qDead_exc, ← hbe]; exact r3)
    have at1 := r1.2.1
    have ge : (nI 0 ≤ nI (dT t (tok + 1))) = True := eq_true (nI_le (by omega) (by omega))
    rcases i.from st fr with ⟨M', c', q1, q2, q3, tok', L', s1, s2, s3, s4, s5⟩ | ⟨M', e, q1, q2, q3, q4⟩
    · subst s1
      have W' := hW.to q2
      have ht' := W'.tok
      have l4 : (L 4).length < ((qA 4 (dT t (tok + 1), tok + 2, 0, 0, 0) L) 4).length := by rw [qA_s]; simp
      have e4 : qg (L' 4) (L 4).length = (dT t (tok + 1), tok + 2, 0, 0, 0) := by
        rw [s4.2.1.2 _ l4, qA_s, qg_eq]
      have l4' : (L 4).length < (L' 4).length := Nat.lt_of_lt_of_le l4 s4.2.1.1
      have me := p_M_excuse (M := M') (b := b) (r := dT t (tok + 1)) (p := tok + 2) (q := tok') (by omega) (by omega) (by omega)
      have re := mExc_rC (r := dT t (tok + 1)) (p := tok + 2) (q := tok') (a := (L 4).length) s2 (by omega) (by omega) l4' (by rw [e4]) (by rw [e4]) (by rw [e4])
      have st2 : gTo t ((10, d, (L 4).length, 0) :: rest, tok', sc, L') (.inr (rest, tok', sc, qM 4 (L 4).length (fun e => (e.1, e.2.1, tok', e.2.2.2)) L')) := gTo.one rfl
      have at2 := s2.2.1
      refine .inl ⟨mExc M' b (dT t (tok + 1)) (tok + 2) (tok' - (tok + 2)), _, ?_, q2.trans st2, q3.trans ((mExc_fr _ _ _).mono (by omega) (by omega)), tok', _, rfl, re, by omega, ?_, ?_⟩
      · simp (disch := omega) only [↓reduceIte, nI_leT, nI_leF, nI_ltT, nI_ltF, nI_eqT, nI_eqF, xin_T, nI_clampT, nI_add, nI_inc, pk_subT, xb_some, xval, xlet, mI_s, mI_n, mI_k, mI_2, mJ_1, mJ_s, mJ_n, mJ_k, mJ_2, mT_1, mT_2, mT_s, mT_n, mT_k, mT_3, mR_1, mR_2, mR_3, bI_0, bI_1, bI_n0, bI_n1, Bool.true_eq_false, Bool.false_eq_true, eq_self, i_0, i_1, i_2, i_3, i_4, i_5, i_6, i_7, i_8, i_9, i_10, i_11, i_12, i_13, i_14, i_15, i_16, i_17, i_18, i_19, i_20, i_21, i_22, i_23, i_24, i_25, i_26, i_27, i_28, i_29, i_30, i_31, i_32, i_33, i_34, i_35, i_36, i_37, i_38, i_39, i_40, i_41, i_42, i_43, i_44, i_45, i_48, i_49, i_57, i_59, i_60, i_61, i_62, i_64, i_97, i_110, i_122, i_123, i_125, i_126, i_127, i_160, i_255, i_300, i_400, h4, dg, at1, ge, q1, at2, me]
      · refine ⟨⟨s4.1.1, s4.1.2⟩, ⟨?_, ?_⟩, ⟨s4.2.2.1, s4.2.2.2⟩⟩
        · rw [qM_s, List.length_modify]; omega
        · intro j hj
          rw [qM_s, qg_modn (by omega), s4.2.1.2 j (by omega), qA_s, qg_lt hj]
      · intro ha; rw [hbe]; exact s5 ha
    · refine .inr ⟨M', e, ?_, q2, q3, q4⟩
      simp (disch := omega) only [↓reduceIte, nI_leT, nI_leF, nI_ltT, nI_ltF, nI_eqT, nI_eqF, xin_T, nI_clampT, nI_add, nI_inc, pk_subT, xb_some, xval, xlet, mI_s, mI_n, mI_k, mI_2, mJ_1, mJ_s, mJ_n, mJ_k, mJ_2, mT_1, mT_2, mT_s, mT_n, mT_k, mT_3, mR_1, mR_2, mR_3, bI_0, bI_1, bI_n0, bI_n1, Bool.true_eq_false, Bool.false_eq_true, eq_self, i_0, i_1, i_2, i_3, i_4, i_5, i_6, i_7, i_8, i_9, i_10, i_11, i_12, i_13, i_14, i_15, i_16, i_17, i_18, i_19, i_20, i_21, i_22, i_23, i_24, i_25, i_26, i_27, i_28, i_29, i_30, i_31, i_32, i_33, i_34, i_35, i_36, i_37, i_38, i_39, i_40, i_41, i_42, i_43, i_44, i_45, i_48, i_49, i_57, i_59, i_60, i_61, i_62, i_64, i_97, i_110, i_122, i_123, i_125, i_126, i_127, i_160, i_255, i_300, i_400, h4, dg, at1, ge, q1]
  · rw [if_neg c] at dg
    refine .inr ⟨wI M (b + 29) 4 (nI (tok + 1)), tok + 1, ?_, gTo.one ?_, fr_at, r1.2.1⟩
    · have n1 : (nI 0 ≤ -nI 1) = False := by decide
      simp (disch := omega) only [↓reduceIte, nI_leT, nI_leF, nI_ltT, nI_ltF, nI_eqT, nI_eqF, xin_T, nI_clampT, nI_add, nI_inc, pk_subT, xb_some, xval, xlet, mI_s, mI_n, mI_k, mI_2, mJ_1, mJ_s, mJ_n, mJ_k, mJ_2, mT_1, mT_2, mT_s, mT_n, mT_k, mT_3, mR_1, mR_2, mR_3, bI_0, bI_1, bI_n0, bI_n1, Bool.true_eq_false, Bool.false_eq_true, eq_self, i_0, i_1, i_2, i_3, i_4, i_5, i_6, i_7, i_8, i_9, i_10, i_11, i_12, i_13, i_14, i_15, i_16, i_17, i_18, i_19, i_20, i_21, i_22, i_23, i_24, i_25, i_26, i_27, i_28, i_29, i_30, i_31, i_32, i_33, i_34, i_35, i_36, i_37, i_38, i_39, i_40, i_41, i_42, i_43, i_44, i_45, i_48, i_49, i_57, i_59, i_60, i_61, i_62, i_64, i_97, i_110, i_122, i_123, i_125, i_126, i_127, i_160, i_255, i_300, i_400, h4, dg, n1]
    · rw [es]; unfold qsExc; rw [if_neg c]
theorem sw_stat : ∀ k, k < 28 → (xSwM.getD k 0 = 1 ↔ k = 0) ∧ (xSwM.getD k 0 = 2 ↔ k = 1) ∧ (xSwM.getD k 0 = 3 ↔ k = 2) ∧ (xSwM.getD k 0 = 4 ↔ k = 3) ∧ (xSwM.getD k 0 = 5 ↔ k = 18) ∧ (xSwM.getD k 0 = 6 ↔ k = 4) ∧ (xSwM.getD k 0 = 7 ↔ k = 6) ∧ (xSwM.getD k 0 = 8 ↔ k = 7) ∧ (xSwM.getD k 0 = 9 ↔ k = 22) ∧ (xSwM.getD k 0 = 10 ↔ k = 20) := by decide
def sVar (b : Nat) (t : List Nat) (rc : Nat → Int32 → Int32 → Int32 → xMem → Option (Int32 × xMem)) (n : Nat) : Prop := ∀ (d a how k : Nat) (M : xMem) (tok sc : Nat) (L : qL) (rest : List qI), 7 * (13 - d) + 3 ≤ n → d ≤ 12 → ¬ (how % 2 = 1 ∧ kT t tok ≤ 3) → kT t tok = k → k ≤ 2 → gW t ((2, d, a, how) :: rest, tok, sc, L) → rC M b t tok sc (qNote a tok (kT t tok) L) → gMid b t rest d a how tok sc L M (rc 2 (nI d) (nI k) (nI 0) M)
def sFn (b : Nat) (t : List Nat) (rc : Nat → Int32 → Int32 → Int32 → xMem → Option (Int32 × xMem)) (n : Nat) : Prop := ∀ (d a how : Nat) (M : xMem) (tok sc : Nat) (L : qL) (rest : List qI), 7 * (13 - d) + 3 ≤ n → d ≤ 12 → ¬ (how % 2 = 1 ∧ kT t tok ≤ 3) → kT t tok = 3 → gW t ((2, d, a, how) :: rest, tok, sc, L) → rC M b t tok sc (qNote a tok (kT t tok) L) → gMid b t rest d a how tok sc L M (rc 3 (nI d) (nI 0) (nI 0) M)
def sBlk (b : Nat) (t : List Nat) (rc : Nat → Int32 → Int32 → Int32 → xMem → Option (Int32 × xMem)) (n : Nat) : Prop := ∀ (d a how r1 : Nat) (M : xMem) (tok sc : Nat) (L : qL) (rest : List qI), 7 * (13 - d) + 3 ≤ n → d ≤ 12 → kT t tok = 18 → (r1 = if a ≠ 0 ∧ how < 2 then 1 else 0) → gW t ((2, d, a, how) :: rest, tok, sc, L) → rC M b t tok sc (qNote a tok (kT t tok) L) → gMid b t rest d a how tok sc L M (rc 4 (nI d) (nI r1) (nI 0) M)
def sIf (b : Nat) (t : List Nat) (rc : Nat → Int32 → Int32 → Int32 → xMem → Option (Int32 × xMem)) (n : Nat) : Prop := ∀ (d a how : Nat) (M : xMem) (tok sc : Nat) (L : qL) (rest : List qI), 7 * (13 - d) + 3 ≤ n → d ≤ 12 → gW t ((2, d, a, how) :: rest, tok, sc, L) → rC M b t tok sc (qNote a tok (kT t tok) L) → (kT t tok = 4 → gMid b t rest d a how tok sc L M (rc 5 (nI d) (nI 0) (nI 0) M)) ∧ (kT t tok = 6 → gMid b t rest d a how tok sc L M (rc 7 (nI d) (nI 0) (nI 0) M)) ∧ (kT t tok = 7 → qHome (qNote a tok (kT t tok) L) sc ≠ 0 → gMid b t rest d a how tok sc L M (rc 8 (nI d) (nI 0) (nI 0) M))
def sExc (b : Nat) (t : List Nat) (rc : Nat → Int32 → Int32 → Int32 → xMem → Option (Int32 × xMem)) (n : Nat) : Prop := ∀ (d a how r2 : Nat) (M : xMem) (tok sc : Nat) (L : qL) (rest : List qI), 7 * (13 - d) + 3 ≤ n → d ≤ 12 → kT t tok = 22 → (r2 = if how % 2 = 0 then 1 else 0) → gW t ((2, d, a, how) :: rest, tok, sc, L) → rC M b t tok sc (qDead a (qBeh t tok) L) → gOut b t ((2, d, a, how) :: rest, tok, sc, L) M (rc 9 (nI d) (nI r2) (nI 0) M) (gP b t rest tok sc L a)
/-- a STATEMENT of one kind is a STATEMENT -/
theorem gMid.to {b : Nat} {t : List Nat} {rest : List qI} {d a how tok sc : Nat} {L : qL} {M : xMem} {o : Option (Int32 × xMem)} (h : gMid b t rest d a how tok sc L M o) (hW : gW t ((2, d, a, how) :: rest, tok, sc, L)) (hk : kT t tok ≠ 22) : gOut b t ((2, d, a, how) :: rest, tok, sc, L) M o (gP b t rest tok sc L a) := by
  refine gOut.imp h ?_
  intro c' M' ⟨tok', L', e1, e2, e3, e4⟩
  refine ⟨tok', L', e1, e2, e3, gKp_note.trans e4, ?_⟩
  intro ha
  have hl : a ≤ (L 5).length := hW.2.2.1.2.2.2.2.1
  rw [e4.1.2 (a - 1) (by rw [q_note_5]; omega) (by omega), qNote_flag ha hl, qBeh_no hk]
theorem g_bool {b : Nat} {t : List Nat} {c : qC} {M : xMem} {o : Option (Int32 × xMem)} {Q : qC → xMem → Prop} (h : gOut b t c M o Q) : gOut b t c M (xbind o fun r M => if xnar .boolean r = true then some (r, M) else none) Q ∧ gOut b t c M (xbind o fun r M => if r = 0 then some (0, M) else some (1, M)) Q := by
  rcases h with ⟨M', c', rfl, e2⟩ | ⟨M', e, rfl, e2⟩
  · refine ⟨.inl ⟨M', c', ?_, e2⟩, .inl ⟨M', c', ?_, e2⟩⟩
    · simp (disch := omega) only [↓reduceIte, nI_leT, nI_leF, nI_ltT, nI_ltF, nI_eqT, nI_eqF, xin_T, nI_clampT, nI_add, nI_inc, pk_subT, xb_some, xval, xlet, mI_s, mI_n, mI_k, mI_2, mJ_1, mJ_s, mJ_n, mJ_k, mJ_2, mT_1, mT_2, mT_s, mT_n, mT_k, mT_3, mR_1, mR_2, mR_3, bI_0, bI_1, bI_n0, bI_n1, Bool.true_eq_false, Bool.false_eq_true, eq_self, i_0, i_1, i_2, i_3, i_4, i_5, i_6, i_7, i_8, i_9, i_10, i_11, i_12, i_13, i_14, i_15, i_16, i_17, i_18, i_19, i_20, i_21, i_22, i_23, i_24, i_25, i_26, i_27, i_28, i_29, i_30, i_31, i_32, i_33, i_34, i_35, i_36, i_37, i_38, i_39, i_40, i_41, i_42, i_43, i_44, i_45, i_48, i_49, i_57, i_59, i_60, i_61, i_62, i_64, i_97, i_110, i_122, i_123, i_125, i_126, i_127, i_160, i_255, i_300, i_400, xnarB1]
    · simp (disch := omega) only [↓reduceIte, nI_leT, nI_leF, nI_ltT, nI_ltF, nI_eqT, nI_eqF, xin_T, nI_clampT, nI_add, nI_inc, pk_subT, xb_some, xval, xlet, mI_s, mI_n, mI_k, mI_2, mJ_1, mJ_s, mJ_n, mJ_k, mJ_2, mT_1, mT_2, mT_s, mT_n, mT_k, mT_3, mR_1, mR_2, mR_3, bI_0, bI_1, bI_n0, bI_n1, Bool.true_eq_false, Bool.false_eq_true, eq_self, i_0, i_1, i_2, i_3, i_4, i_5, i_6, i_7, i_8, i_9, i_10, i_11, i_12, i_13, i_14, i_15, i_16, i_17, i_18, i_19, i_20, i_21, i_22, i_23, i_24, i_25, i_26, i_27, i_28, i_29, i_30, i_31, i_32, i_33, i_34, i_35, i_36, i_37, i_38, i_39, i_40, i_41, i_42, i_43, i_44, i_45, i_48, i_49, i_57, i_59, i_60, i_61, i_62, i_64, i_97, i_110, i_122, i_123, i_125, i_126, i_127, i_160, i_255, i_300, i_400]
  · refine ⟨.inr ⟨M', e, ?_, e2⟩, .inr ⟨M', e, ?_, e2⟩⟩
    · simp (disch := omega) only [↓reduceIte, nI_leT, nI_leF, nI_ltT, nI_ltF, nI_eqT, nI_eqF, xin_T, nI_clampT, nI_add, nI_inc, pk_subT, xb_some, xval, xlet, mI_s, mI_n, mI_k, mI_2, mJ_1, mJ_s, mJ_n, mJ_k, mJ_2, mT_1, mT_2, mT_s, mT_n, mT_k, mT_3, mR_1, mR_2, mR_3, bI_0, bI_1, bI_n0, bI_n1, Bool.true_eq_false, Bool.false_eq_true, eq_self, i_0, i_1, i_2, i_3, i_4, i_5, i_6, i_7, i_8, i_9, i_10, i_11, i_12, i_13, i_14, i_15, i_16, i_17, i_18, i_19, i_20, i_21, i_22, i_23, i_24, i_25, i_26, i_27, i_28, i_29, i_30, i_31, i_32, i_33, i_34, i_35, i_36, i_37, i_38, i_39, i_40, i_41, i_42, i_43, i_44, i_45, i_48, i_49, i_57, i_59, i_60, i_61, i_62, i_64, i_97, i_110, i_122, i_123, i_125, i_126, i_127, i_160, i_255, i_300, i_400, xnarB0]
    · simp (disch := omega) only [↓reduceIte, nI_leT, nI_leF, nI_ltT, nI_ltF, nI_eqT, nI_eqF, xin_T, nI_clampT, nI_add, nI_inc, pk_subT, xb_some, xval, xlet, mI_s, mI_n, mI_k, mI_2, mJ_1, mJ_s, mJ_n, mJ_k, mJ_2, mT_1, mT_2, mT_s, mT_n, mT_k, mT_3, mR_1, mR_2, mR_3, bI_0, bI_1, bI_n0, bI_n1, Bool.true_eq_false, Bool.false_eq_true, eq_self, i_0, i_1, i_2, i_3, i_4, i_5, i_6, i_7, i_8, i_9, i_10, i_11, i_12, i_13, i_14, i_15, i_16, i_17, i_18, i_19, i_20, i_21, i_22, i_23, i_24, i_25, i_26, i_27, i_28, i_29, i_30, i_31, i_32, i_33, i_34, i_35, i_36, i_37, i_38, i_39, i_40, i_41, i_42, i_43, i_44, i_45, i_48, i_49, i_57, i_59, i_60, i_61, i_62, i_64, i_97, i_110, i_122, i_123, i_125, i_126, i_127, i_160, i_255, i_300, i_400]
theorem g_statement {b : Nat} {t : List Nat} {rc : Nat → Int32 → Int32 → Int32 → xMem → Option (Int32 × xMem)} {n : Nat} (hV : sVal b t rc n) (h2 : sVar b t rc n) (h3 : sFn b t rc n) (hB : sBlk b t rc n) (hI : sIf b t rc n) (hE : sExc b t rc n) {d a how tok sc r1 r2 : Nat} {M : xMem} {L : qL} {rest : List qI} (hn : 7 * (13 - d) + 3 ≤ n) (hd : d ≤ 13) (hr1 : r1 = if a ≠ 0 ∧ how < 2 then 1 else 0) (hr2 : r2 = if how % 2 = 0 then 1 else 0) (hW : gW t ((2, d, a, how) :: rest, tok, sc, L)) (hR : rC M b t tok sc (qDead a (qBeh t tok) L)) : gOut b t ((2, d, a, how) :: rest, tok, sc, L) M (f_P_statement rc b (nI d) (nI r1) (nI r2) M) (gP b t rest tok sc L a) := by
  have ht := hW.tok
  have h4 := hR.2.1
  by_cases cd : d ≤ 12
  · have nx := p_next hR (by omega)
    have kl := kT_lt t tok
    have od := p_ordinal (M := M) kl
    obtain ⟨w1, w2, w3, w4, w5, w6, w7, w8, w9, w10⟩ := sw_stat (kT t tok) kl
    have o : f_P_statement rc b (nI d) (nI r1) (nI r2) M = (if kT t tok = 0 then (if nI r2 = 0 then (some (0, M)) else (xbind (rc 2 (nI d) (nI 0) (nI 0) M) fun r52 M => if r52 = 0 then (some (0, M)) else (some (1, M)))) else if kT t tok = 1 then (if nI r2 = 0 then (some (0, M)) else (xbind (rc 2 (nI d) (nI 1) (nI 0) M) fun r52 M => if r52 = 0 then (some (0, M)) else (some (1, M)))) else if kT t tok = 2 then (if nI r2 = 0 then (some (0, M)) else (xbind (rc 2 (nI d) (nI 2) (nI 0) M) fun r52 M => if r52 = 0 then (some (0, M)) else (some (1, M)))) else if kT t tok = 3 then (if nI r2 = 0 then (some (0, M)) else (xbind (rc 3 (nI d) (nI 0) (nI 0) M) fun r52 M => if r52 = 0 then (some (0, M)) else (some (1, M)))) else if kT t tok = 18 then (xbind (rc 4 (nI d) (nI r1) (nI 0) M) fun r M => if xnar .boolean r = true then some (r, M) else none) else if kT t tok = 4 then (xbind (rc 5 (nI d) (nI 0) (nI 0) M) fun r M => if xnar .boolean r = true then some (r, M) else none) else if kT t tok = 6 then (xbind (rc 7 (nI d) (nI 0) (nI 0) M) fun r M => if xnar .boolean r = true then some (r, M) else none) else if kT t tok = 7 then (xval (M.1 (b + 29) 5) fun x83 => xbind (f_S_homeOf b x83 M) fun r84 M => if r84 = 0 then (some (0, M)) else (xbind (rc 8 (nI d) (nI 0) (nI 0) M) fun r M => if r = 0 then (some (0, M)) else (some (1, M)))) else if kT t tok = 22 then (xbind (rc 9 (nI d) (nI r2) (nI 0) M) fun r M => if xnar .boolean r = true then some (r, M) else none) else if kT t tok = 20 then (xbind (f_P_nothing b (nI r1) M) fun r M => if xnar .boolean r = true then some (r, M) else none) else (xbind (rc 10 (nI d) (nI 0) (nI 0) M) fun r98 M => if r98 = 0 then (some (0, M)) else (xbind (f_P_take b 20 M) fun r101 M => if r101 = 0 then (some (0, M)) else (some (1, M))))) := by
      unfold f_P_statement
      rw [if_pos (show nI d ≤ 12 from (nI_le (b := 12) cd (by decide) : nI d ≤ nI 12)), nx, xb_some, if_pos kl, od, xb_some, if_pos (xin_T kl (by decide)), nI_clampT (by omega)]
      simp only [w1, w2, w3, w4, w5, w6, w7, w8, w9, w10]
      rfl
    rw [o]
    have bad : how % 2 = 1 → kT t tok ≤ 3 → gTo t ((2, d, a, how) :: rest, tok, sc, L) (.inl tok) := by
      intro h1 h2
      refine gTo.one ?_
      rw [g_stat]; unfold qStat; rw [if_pos (.inr ⟨h1, h2⟩)]
    have r01 : (r2 = 0 ∧ how % 2 = 1) ∨ (r2 = 1 ∧ how % 2 = 0) := by
      rw [hr2]; split
      · exact .inr ⟨rfl, by assumption⟩
      · exact .inl ⟨rfl, by omega⟩
    by_cases c22 : kT t tok = 22
    · rw [if_neg (by omega), if_neg (by omega), if_neg (by omega), if_neg (by omega), if_neg (by omega), if_neg (by omega), if_neg (by omega), if_neg (by omega), if_pos c22]
      exact (g_bool (hE d a how r2 M tok sc L rest hn cd c22 hr2 hW hR)).1
    have hb : qBeh t tok = tok := qBeh_no c22
    rw [hb] at hR
    have hN := hR.note (k := kT t tok)
    /- a kind that may not be DECLARED here -/
    have decl : ∀ (x : Option (Int32 × xMem)), kT t tok ≤ 3 → (¬ (how % 2 = 1 ∧ kT t tok ≤ 3) → gMid b t rest d a how tok sc L M x) → gOut b t ((2, d, a, how) :: rest, tok, sc, L) M (if nI r2 = 0 then (some (0, M)) else (xbind x fun r52 M => if r52 = 0 then (some (0, M)) else (some (1, M)))) (gP b t rest tok sc L a) := by
      intro x hx hm
      rcases r01 with ⟨e1, e2⟩ | ⟨e1, e2⟩
      · refine .inr ⟨M, tok, ?_, bad e2 hx, pFr.rfl, h4⟩
        simp (disch := omega) only [↓reduceIte, nI_leT, nI_leF, nI_ltT, nI_ltF, nI_eqT, nI_eqF, xin_T, nI_clampT, nI_add, nI_inc, pk_subT, xb_some, xval, xlet, mI_s, mI_n, mI_k, mI_2, mJ_1, mJ_s, mJ_n, mJ_k, mJ_2, mT_1, mT_2, mT_s, mT_n, mT_k, mT_3, mR_1, mR_2, mR_3, bI_0, bI_1, bI_n0, bI_n1, Bool.true_eq_false, Bool.false_eq_true, eq_self, i_0, i_1, i_2, i_3, i_4, i_5, i_6, i_7, i_8, i_9, i_10, i_11, i_12, i_13, i_14, i_15, i_16, i_17, i_18, i_19, i_20, i_21, i_22, i_23, i_24, i_25, i_26, i_27, i_28, i_29, i_30, i_31, i_32, i_33, i_34, i_35, i_36, i_37, i_38, i_39, i_40, i_41, i_42, i_43, i_44, i_45, i_48, i_49, i_57, i_59, i_60, i_61, i_62, i_64, i_97, i_110, i_122, i_123, i_125, i_126, i_127, i_160, i_255, i_300, i_400, e1]
      · rw [if_neg (by rw [e1]; decide)]
        exact (g_bool ((hm (by omega)).to hW c22)).2
    by_cases c0 : kT t tok = 0
    · rw [if_pos c0]
      exact decl _ (by omega) (fun h => h2 d a how 0 M tok sc L rest hn cd h c0 (by omega) hW hN)
    rw [if_neg c0]
    by_cases c1 : kT t tok = 1
    · rw [if_pos c1]
      exact decl _ (by omega) (fun h => h2 d a how 1 M tok sc L rest hn cd h c1 (by omega) hW hN)
    rw [if_neg c1]
    by_cases c2 : kT t tok = 2
    · rw [if_pos c2]
      exact decl _ (by omega) (fun h => h2 d a how 2 M tok sc L rest hn cd h c2 (by omega) hW hN)
    rw [if_neg c2]
    by_cases c3 : kT t tok = 3
    · rw [if_pos c3]
      exact decl _ (by omega) (fun h => h3 d a how M tok sc L rest hn cd h c3 hW hN)
    rw [if_neg c3]
    by_cases c18 : kT t tok = 18
    · rw [if_pos c18]
      exact (g_bool ((hB d a how r1 M tok sc L rest hn cd c18 hr1 hW hN).to hW c22)).1
    rw [if_neg c18]
    obtain ⟨i1, i2, i3⟩ := hI d a how M tok sc L rest hn cd hW hN
    by_cases c4 : kT t tok = 4
    · rw [if_pos c4]
      exact (g_bool ((i1 c4).to hW c22)).1
    rw [if_neg c4]
    by_cases c6 : kT t tok = 6
    · rw [if_pos c6]
      exact (g_bool ((i2 c6).to hW c22)).1
    rw [if_neg c6]
    by_cases c7 : kT t tok = 7
    · rw [if_pos c7]
      have ok := hW.note (k := kT t tok)
      have l0 : (qNote a tok (kT t tok) L 0).length ≤ tok + 1 := ok_len0 ok
      have ho := p_homeOf hN.2.2.2.1 ok.2.1 (by omega)
      have h5 := hN.2.2.1
      have hm := ok_home ok
      show gOut b t _ M (xbind (f_S_homeOf b (M.1 (b + 29) 5) M) _) _
      rw [h5, ho, xb_some]
      by_cases ch : qHome (qNote a tok (kT t tok) L) sc = 0
      · have ch' : (qg (qNote a tok (kT t tok) L 0) sc).2.2.1 = 0 := ch
        rw [ch', if_pos (by decide)]
        refine .inr ⟨M, tok, rfl, gTo.one ?_, pFr.rfl, h4⟩
        rw [g_stat]; unfold qStat qsRet
        rw [if_neg (by omega), if_neg (by omega), if_neg (by omega), if_neg (by omega), if_neg (by omega), if_neg (by omega), if_pos c7, if_pos ch]
      · have hm' : (qg (qNote a tok (kT t tok) L 0) sc).2.2.1 < (qNote a tok (kT t tok) L 0).length := hm
        rw [if_neg (by rw [i_0]; intro e; exact ch ((nI_eq (by omega) (by omega)).mp e))]
        exact (g_bool ((i3 c7 ch).to hW c22)).2
    rw [if_neg c7, if_neg c22]
    by_cases c20 : kT t tok = 20
    · rw [if_pos c20]
      have hre := hW.real (by omega)
      have ma := p_M_add (M := M) (b := b) (p := tok) (r := 9) (by omega)
      have st : gTo t ((2, d, a, how) :: rest, tok, sc, L) (.inr (rest, tok + 1, sc, qSpaL a how tok (qNote a tok (kT t tok) L))) := gTo.one (by
        rw [g_stat]; unfold qStat
        rw [if_neg (by omega), if_neg (by omega), if_neg (by omega), if_neg (by omega), if_neg (by omega), if_neg (by omega), if_neg (by omega), if_pos c20])
      have gm : gMid b t rest d a how tok sc L M (f_P_nothing b (nI r1) M) := by
        unfold f_P_nothing f_P_nothing_17
        by_cases cs : a ≠ 0 ∧ how < 2
        · rw [if_pos cs] at hr1
          have r3 := mAdd_rC (p := tok) (r := 9) (y := (0, 0, 0, 0)) hN (by omega) (by omega)
          have tk := p_take (k := 20) r3 (by omega) (by omega)
          rw [if_pos c20] at tk
          refine .inl ⟨wI (mAdd M b tok 9) (b + 29) 4 (nI (tok + 1)), _, ?_, st, (mAdd_fr.mono (by omega) (by omega)).trans fr_at, tok + 1, _, rfl, ?_, by omega, gKp.same q_spa_5 q_spa_4 (q_spa_at (by decide))⟩
          · simp (disch := omega) only [↓reduceIte, nI_leT, nI_leF, nI_ltT, nI_ltF, nI_eqT, nI_eqF, xin_T, nI_clampT, nI_add, nI_inc, pk_subT, xb_some, xval, xlet, mI_s, mI_n, mI_k, mI_2, mJ_1, mJ_s, mJ_n, mJ_k, mJ_2, mT_1, mT_2, mT_s, mT_n, mT_k, mT_3, mR_1, mR_2, mR_3, bI_0, bI_1, bI_n0, bI_n1, Bool.true_eq_false, Bool.false_eq_true, eq_self, i_0, i_1, i_2, i_3, i_4, i_5, i_6, i_7, i_8, i_9, i_10, i_11, i_12, i_13, i_14, i_15, i_16, i_17, i_18, i_19, i_20, i_21, i_22, i_23, i_24, i_25, i_26, i_27, i_28, i_29, i_30, i_31, i_32, i_33, i_34, i_35, i_36, i_37, i_38, i_39, i_40, i_41, i_42, i_43, i_44, i_45, i_48, i_49, i_57, i_59, i_60, i_61, i_62, i_64, i_97, i_110, i_122, i_123, i_125, i_126, i_127, i_160, i_255, i_300, i_400, hr1, h4, ma, tk, xnarB1]
          · unfold qSpaL; rw [if_pos cs]; exact r3.at
        · rw [if_neg cs] at hr1
          have tk := p_take (k := 20) hN (by omega) (by omega)
          rw [if_pos c20] at tk
          refine .inl ⟨wI M (b + 29) 4 (nI (tok + 1)), _, ?_, st, fr_at, tok + 1, _, rfl, ?_, by omega, gKp.same q_spa_5 q_spa_4 (q_spa_at (by decide))⟩
          · simp (disch := omega) only [↓reduceIte, nI_leT, nI_leF, nI_ltT, nI_ltF, nI_eqT, nI_eqF, xin_T, nI_clampT, nI_add, nI_inc, pk_subT, xb_some, xval, xlet, mI_s, mI_n, mI_k, mI_2, mJ_1, mJ_s, mJ_n, mJ_k, mJ_2, mT_1, mT_2, mT_s, mT_n, mT_k, mT_3, mR_1, mR_2, mR_3, bI_0, bI_1, bI_n0, bI_n1, Bool.true_eq_false, Bool.false_eq_true, eq_self, i_0, i_1, i_2, i_3, i_4, i_5, i_6, i_7, i_8, i_9, i_10, i_11, i_12, i_13, i_14, i_15, i_16, i_17, i_18, i_19, i_20, i_21, i_22, i_23, i_24, i_25, i_26, i_27, i_28, i_29, i_30, i_31, i_32, i_33, i_34, i_35, i_36, i_37, i_38, i_39, i_40, i_41, i_42, i_43, i_44, i_45, i_48, i_49, i_57, i_59, i_60, i_61, i_62, i_64, i_97, i_110, i_122, i_123, i_125, i_126, i_127, i_160, i_255, i_300, i_400, hr1, tk, xnarB1]
          · unfold qSpaL; rw [if_neg cs]; exact hN.at
      exact (g_bool (gm.to hW c22)).1
    rw [if_neg c20]
    have st : gTo t ((2, d, a, how) :: rest, tok, sc, L) (.inr ((5, d, 0, 0) :: (4, d, 20, 0) :: rest, tok, sc, qNote a tok (kT t tok) L)) := gTo.one (by
      rw [g_stat]; unfold qStat
      rw [if_neg (by omega), if_neg (by omega), if_neg (by omega), if_neg (by omega), if_neg (by omega), if_neg (by omega), if_neg (by omega), if_neg c20])
    have gm : gMid b t rest d a how tok sc L M (xbind (rc 10 (nI d) (nI 0) (nI 0) M) fun r98 M => if r98 = 0 then (some (0, M)) else (xbind (f_P_take b 20 M) fun r101 M => if r101 = 0 then (some (0, M)) else (some (1, M)))) := by
      rcases (hV d 0 M tok sc _ ((4, d, 20, 0) :: rest) (by omega) (by omega) (hW.to st) hN).from st pFr.rfl with ⟨M', c', q1, q2, q3, tok', L', s1, s2, s3, s4⟩ | ⟨M', e, q1, q2, q3, q4⟩
      · subst s1
        have ht' := (hW.to q2).tok
        have tk2 := p_take (k := 20) s2 (by omega) (by omega)
        by_cases c6 : kT t tok' = 20
        · rw [if_pos c6] at tk2
          refine .inl ⟨_, _, ?_, q2.trans (g_one.1 c6), q3.trans fr_at, tok' + 1, _, rfl, s2.at (tok' := tok' + 1), by omega, s4⟩
          simp (disch := omega) only [↓reduceIte, nI_leT, nI_leF, nI_ltT, nI_ltF, nI_eqT, nI_eqF, xin_T, nI_clampT, nI_add, nI_inc, pk_subT, xb_some, xval, xlet, mI_s, mI_n, mI_k, mI_2, mJ_1, mJ_s, mJ_n, mJ_k, mJ_2, mT_1, mT_2, mT_s, mT_n, mT_k, mT_3, mR_1, mR_2, mR_3, bI_0, bI_1, bI_n0, bI_n1, Bool.true_eq_false, Bool.false_eq_true, eq_self, i_0, i_1, i_2, i_3, i_4, i_5, i_6, i_7, i_8, i_9, i_10, i_11, i_12, i_13, i_14, i_15, i_16, i_17, i_18, i_19, i_20, i_21, i_22, i_23, i_24, i_25, i_26, i_27, i_28, i_29, i_30, i_31, i_32, i_33, i_34, i_35, i_36, i_37, i_38, i_39, i_40, i_41, i_42, i_43, i_44, i_45, i_48, i_49, i_57, i_59, i_60, i_61, i_62, i_64, i_97, i_110, i_122, i_123, i_125, i_126, i_127, i_160, i_255, i_300, i_400, q1, tk2]
        · rw [if_neg c6] at tk2
          refine .inr ⟨M', tok', ?_, q2.trans (g_one.2 c6), q3, s2.2.1⟩
          simp (disch := omega) only [↓reduceIte, nI_leT, nI_leF, nI_ltT, nI_ltF, nI_eqT, nI_eqF, xin_T, nI_clampT, nI_add, nI_inc, pk_subT, xb_some, xval, xlet, mI_s, mI_n, mI_k, mI_2, mJ_1, mJ_s, mJ_n, mJ_k, mJ_2, mT_1, mT_2, mT_s, mT_n, mT_k, mT_3, mR_1, mR_2, mR_3, bI_0, bI_1, bI_n0, bI_n1, Bool.true_eq_false, Bool.false_eq_true, eq_self, i_0, i_1, i_2, i_3, i_4, i_5, i_6, i_7, i_8, i_9, i_10, i_11, i_12, i_13, i_14, i_15, i_16, i_17, i_18, i_19, i_20, i_21, i_22, i_23, i_24, i_25, i_26, i_27, i_28, i_29, i_30, i_31, i_32, i_33, i_34, i_35, i_36, i_37, i_38, i_39, i_40, i_41, i_42, i_43, i_44, i_45, i_48, i_49, i_57, i_59, i_60, i_61, i_62, i_64, i_97, i_110, i_122, i_123, i_125, i_126, i_127, i_160, i_255, i_300, i_400, q1, tk2]
      · refine .inr ⟨M', e, ?_, q2, q3, q4⟩
        simp (disch := omega) only [↓reduceIte, nI_leT, nI_leF, nI_ltT, nI_ltF, nI_eqT, nI_eqF, xin_T, nI_clampT, nI_add, nI_inc, pk_subT, xb_some, xval, xlet, mI_s, mI_n, mI_k, mI_2, mJ_1, mJ_s, mJ_n, mJ_k, mJ_2, mT_1, mT_2, mT_s, mT_n, mT_k, mT_3, mR_1, mR_2, mR_3, bI_0, bI_1, bI_n0, bI_n1, Bool.true_eq_false, Bool.false_eq_true, eq_self, i_0, i_1, i_2, i_3, i_4, i_5, i_6, i_7, i_8, i_9, i_10, i_11, i_12, i_13, i_14, i_15, i_16, i_17, i_18, i_19, i_20, i_21, i_22, i_23, i_24, i_25, i_26, i_27, i_28, i_29, i_30, i_31, i_32, i_33, i_34, i_35, i_36, i_37, i_38, i_39, i_40, i_41, i_42, i_43, i_44, i_45, i_48, i_49, i_57, i_59, i_60, i_61, i_62, i_64, i_97, i_110, i_122, i_123, i_125, i_126, i_127, i_160, i_255, i_300, i_400, q1]
    exact gm.to hW c22
  · refine .inr ⟨M, tok, ?_, gTo.one ?_, pFr.rfl, h4⟩
    · unfold f_P_statement
      rw [if_neg (show ¬ nI d ≤ 12 from (nI_ge (a := 12) (by omega) (by omega) : ¬ nI d ≤ nI 12))]
      rfl
    · rw [g_stat]; unfold qStat; rw [if_pos (.inl (by omega))]
theorem p_M_add_out {M : xMem} {b p r : Nat} (hp : 60 ≤ p) (hp2 : p < 1000) : f_M_add b (nI p) (nI r) M = some ((), M) := by
  unfold f_M_add f_M_isThere
  simp (disch := omega) only [↓reduceIte, nI_leT, nI_leF, nI_ltT, nI_ltF, nI_eqT, nI_eqF, xin_T, nI_clampT, nI_add, nI_inc, pk_subT, xb_some, xval, xlet, mI_s, mI_n, mI_k, mI_2, mJ_1, mJ_s, mJ_n, mJ_k, mJ_2, mT_1, mT_2, mT_s, mT_n, mT_k, mT_3, mR_1, mR_2, mR_3, bI_0, bI_1, bI_n0, bI_n1, Bool.true_eq_false, Bool.false_eq_true, eq_self, i_0, i_1, i_2, i_3, i_4, i_5, i_6, i_7, i_8, i_9, i_10, i_11, i_12, i_13, i_14, i_15, i_16, i_17, i_18, i_19, i_20, i_21, i_22, i_23, i_24, i_25, i_26, i_27, i_28, i_29, i_30, i_31, i_32, i_33, i_34, i_35, i_36, i_37, i_38, i_39, i_40, i_41, i_42, i_43, i_44, i_45, i_48, i_49, i_57, i_59, i_60, i_61, i_62, i_64, i_97, i_110, i_122, i_123, i_125, i_126, i_127, i_160, i_255, i_300, i_400]
theorem rC.out {M : xMem} {b p r tok sc : Nat} {t : List Nat} {L : qL} {y : Nat × Nat × Nat × Nat} (h : rC M b t tok sc L) (hr : r < 10) (h8 : r ≠ 8) (hp : 60 ≤ p) : rC M b t tok sc (qA (10 + r) (p, y) L) := by
  obtain ⟨g1, g2, g3, h1, h2, h3, h4, h5, h6⟩ := h
  refine ⟨g1, g2, g3, ?_, ?_, ?_, ?_, ?_, ?_⟩
  · rw [qA_n _ _ (by omega)]; exact h1
  · rw [qA_n _ _ (by omega)]; exact h2
  · rw [qA_n _ _ (by omega)]; exact h3
  · intro q hq
    refine (h4 q hq).iff ?_
    intro r' hr'
    rw [qA_at]
    split
    · constructor
      · intro ⟨e, he, h⟩; exact ⟨e, List.mem_append_left _ he, h⟩
      · intro ⟨e, he, h⟩
        rcases List.mem_append.mp he with he | he
        · exact ⟨e, he, h⟩
        · rw [List.mem_singleton] at he; subst he; exact absurd (show p = q from h) (by omega)
    · exact Iff.rfl
  · rw [qA_n _ _ (by omega)]; exact h5
  · rw [qA_n _ _ (by omega)]; exact h6
theorem g_list {b : Nat} {t : List Nat} {rc : Nat → Int32 → Int32 → Int32 → xMem → Option (Int32 × xMem)} {n : Nat} (hS : sSt b t rc n) {d a m : Nat} (hd : d ≤ 13) (hn : 7 * (13 - d) + 4 ≤ n) {rest : List qI} {sc : Nat} : ∀ (fuel j tok v : Nat) (M : xMem) (L : qL), j ≤ tok → 61 < tok + fuel → v ≤ 1 → ((qg (L 5) m).1 = 1 ↔ v = 1) → gW t ((1, d, a, m) :: rest, tok, sc, L) → rC M b t tok sc L → gOut b t ((1, d, a, m) :: rest, tok, sc, L) M (f_P_statements_4 rc b (nI d) fuel (nI v) (nI j) M) (fun c' M' => ∃ tok' L', c' = ((1, d, a, m) :: rest, tok', sc, L') ∧ rC M' b t tok' sc L' ∧ tok ≤ tok' ∧ gKp (m + 1) L L' ∧ (kT t tok' = 19 ∨ kT t tok' = 26)) := by
  have hT := nT_le t
  intro fuel
  induction fuel with
  | zero => intro j tok v M L hj hf hv hvm hW hR; have := hW.tok; omega
  | succ f ih =>
    intro j tok v M L hj hf hv hvm hW hR
    have ht := hW.tok
    have nx := p_next hR (by omega)
    have kl := kT_lt t tok
    have hit := hW.2.2.1.2.2.2
    have hm : m < (L 5).length := hit.2.1
    have ha : a = 19 ∨ a = 26 := hit.2.2
    by_cases c19 : kT t tok = 19
    · refine .inl ⟨M, _, ?_, gTo.refl, pFr.rfl, tok, L, rfl, hR, Nat.le_refl _, gKp.same rfl rfl rfl, .inl c19⟩
      rw [f_P_statements_4]
      rw [c19] at nx
      have k19 : (19 : Nat) < 28 := by omega
      simp (disch := omega) only [↓reduceIte, nI_leT, nI_leF, nI_ltT, nI_ltF, nI_eqT, nI_eqF, xin_T, nI_clampT, nI_add, nI_inc, pk_subT, xb_some, xval, xlet, mI_s, mI_n, mI_k, mI_2, mJ_1, mJ_s, mJ_n, mJ_k, mJ_2, mT_1, mT_2, mT_s, mT_n, mT_k, mT_3, mR_1, mR_2, mR_3, bI_0, bI_1, bI_n0, bI_n1, Bool.true_eq_false, Bool.false_eq_true, eq_self, i_0, i_1, i_2, i_3, i_4, i_5, i_6, i_7, i_8, i_9, i_10, i_11, i_12, i_13, i_14, i_15, i_16, i_17, i_18, i_19, i_20, i_21, i_22, i_23, i_24, i_25, i_26, i_27, i_28, i_29, i_30, i_31, i_32, i_33, i_34, i_35, i_36, i_37, i_38, i_39, i_40, i_41, i_42, i_43, i_44, i_45, i_48, i_49, i_57, i_59, i_60, i_61, i_62, i_64, i_97, i_110, i_122, i_123, i_125, i_126, i_127, i_160, i_255, i_300, i_400, nx, k19]
    by_cases c26 : kT t tok = 26
    · refine .inl ⟨M, _, ?_, gTo.refl, pFr.rfl, tok, L, rfl, hR, Nat.le_refl _, gKp.same rfl rfl rfl, .inr c26⟩
      rw [f_P_statements_4]
      rw [c26] at nx
      have k26 : (26 : Nat) < 28 := by omega
      have k1 : ((26 : Nat) = 19) = False := by decide
      simp (disch := omega) only [↓reduceIte, nI_leT, nI_leF, nI_ltT, nI_ltF, nI_eqT, nI_eqF, xin_T, nI_clampT, nI_add, nI_inc, pk_subT, xb_some, xval, xlet, mI_s, mI_n, mI_k, mI_2, mJ_1, mJ_s, mJ_n, mJ_k, mJ_2, mT_1, mT_2, mT_s, mT_n, mT_k, mT_3, mR_1, mR_2, mR_3, bI_0, bI_1, bI_n0, bI_n1, Bool.true_eq_false, Bool.false_eq_true, eq_self, i_0, i_1, i_2, i_3, i_4, i_5, i_6, i_7, i_8, i_9, i_10, i_11, i_12, i_13, i_14, i_15, i_16, i_17, i_18, i_19, i_20, i_21, i_22, i_23, i_24, i_25, i_26, i_27, i_28, i_29, i_30, i_31, i_32, i_33, i_34, i_35, i_36, i_37, i_38, i_39, i_40, i_41, i_42, i_43, i_44, i_45, i_48, i_49, i_57, i_59, i_60, i_61, i_62, i_64, i_97, i_110, i_122, i_123, i_125, i_126, i_127, i_160, i_255, i_300, i_400, nx, k26, k1]
    have st : gTo t ((1, d, a, m) :: rest, tok, sc, L) (.inr ((2, d, m + 1, 0) :: (1, d, a, m) :: rest, tok, sc, L)) := gTo.one (by
      show qLst (kT t) d a m rest tok sc L = _
      unfold qLst; rw [if_pos (by omega)])
    have bex := p_behindExcuses hR.1 ht.1
    have ble := qBeh_le (t := t) ht.1
    have h4 := hR.2.1
    /- the mark of a STATEMENT behind a return -/
    have mk : ∃ M1, rC M1 b t tok sc (qDead (m + 1) (qBeh t tok) L) ∧ pFr (b + 8) (b + 30) M M1 ∧ f_P_statements_4 rc b (nI d) (f + 1) (nI v) (nI j) M = f_P_statements_59 rc b (nI d) (f_P_statements_4 rc b (nI d) f) (nI v) (nI j) (nI (qBeh t tok)) M1 := by
      rw [f_P_statements_4]
      have : v = 0 ∨ v = 1 := by omega
      rcases this with rfl | rfl
      · refine ⟨M, ?_, pFr.rfl, ?_⟩
        · unfold qDead; rw [if_neg (by intro h; have := hvm.mp h.2; omega)]; exact hR
        · simp (disch := omega) only [↓reduceIte, nI_leT, nI_leF, nI_ltT, nI_ltF, nI_eqT, nI_eqF, xin_T, nI_clampT, nI_add, nI_inc, pk_subT, xb_some, xval, xlet, mI_s, mI_n, mI_k, mI_2, mJ_1, mJ_s, mJ_n, mJ_k, mJ_2, mT_1, mT_2, mT_s, mT_n, mT_k, mT_3, mR_1, mR_2, mR_3, bI_0, bI_1, bI_n0, bI_n1, Bool.true_eq_false, Bool.false_eq_true, eq_self, i_0, i_1, i_2, i_3, i_4, i_5, i_6, i_7, i_8, i_9, i_10, i_11, i_12, i_13, i_14, i_15, i_16, i_17, i_18, i_19, i_20, i_21, i_22, i_23, i_24, i_25, i_26, i_27, i_28, i_29, i_30, i_31, i_32, i_33, i_34, i_35, i_36, i_37, i_38, i_39, i_40, i_41, i_42, i_43, i_44, i_45, i_48, i_49, i_57, i_59, i_60, i_61, i_62, i_64, i_97, i_110, i_122, i_123, i_125, i_126, i_127, i_160, i_255, i_300, i_400, nx, kl, c19, c26, h4, bex]
      · by_cases c60 : qBeh t tok < 60
        · have ma := p_M_add (M := M) (b := b) (p := qBeh t tok) (r := 5) c60
          refine ⟨mAdd M b (qBeh t tok) 5, ?_, mAdd_fr.mono (by omega) (by omega), ?_⟩
          · unfold qDead; rw [if_pos ⟨by omega, hvm.mpr rfl⟩]
            exact mAdd_rC hR (by omega) (by omega)
          · simp (disch := omega) only [↓reduceIte, nI_leT, nI_leF, nI_ltT, nI_ltF, nI_eqT, nI_eqF, xin_T, nI_clampT, nI_add, nI_inc, pk_subT, xb_some, xval, xlet, mI_s, mI_n, mI_k, mI_2, mJ_1, mJ_s, mJ_n, mJ_k, mJ_2, mT_1, mT_2, mT_s, mT_n, mT_k, mT_3, mR_1, mR_2, mR_3, bI_0, bI_1, bI_n0, bI_n1, Bool.true_eq_false, Bool.false_eq_true, eq_self, i_0, i_1, i_2, i_3, i_4, i_5, i_6, i_7, i_8, i_9, i_10, i_11, i_12, i_13, i_14, i_15, i_16, i_17, i_18, i_19, i_20, i_21, i_22, i_23, i_24, i_25, i_26, i_27, i_28, i_29, i_30, i_31, i_32, i_33, i_34, i_35, i_36, i_37, i_38, i_39, i_40, i_41, i_42, i_43, i_44, i_45, i_48, i_49, i_57, i_59, i_60, i_61, i_62, i_64, i_97, i_110, i_122, i_123, i_125, i_126, i_127, i_160, i_255, i_300, i_400, nx, kl, c19, c26, h4, bex, ma]
        · have ma := p_M_add_out (M := M) (b := b) (p := qBeh t tok) (r := 5) (by omega) (by omega)
          refine ⟨M, ?_, pFr.rfl, ?_⟩
          · unfold qDead; rw [if_pos ⟨by omega, hvm.mpr rfl⟩]
            exact hR.out (r := 5) (by omega) (by omega) (by omega)
          · simp (disch := omega) only [↓reduceIte, nI_leT, nI_leF, nI_ltT, nI_ltF, nI_eqT, nI_eqF, xin_T, nI_clampT, nI_add, nI_inc, pk_subT, xb_some, xval, xlet, mI_s, mI_n, mI_k, mI_2, mJ_1, mJ_s, mJ_n, mJ_k, mJ_2, mT_1, mT_2, mT_s, mT_n, mT_k, mT_3, mR_1, mR_2, mR_3, bI_0, bI_1, bI_n0, bI_n1, Bool.true_eq_false, Bool.false_eq_true, eq_self, i_0, i_1, i_2, i_3, i_4, i_5, i_6, i_7, i_8, i_9, i_10, i_11, i_12, i_13, i_14, i_15, i_16, i_17, i_18, i_19, i_20, i_21, i_22, i_23, i_24, i_25, i_26, i_27, i_28, i_29, i_30, i_31, i_32, i_33, i_34, i_35, i_36, i_37, i_38, i_39, i_40, i_41, i_42, i_43, i_44, i_45, i_48, i_49, i_57, i_59, i_60, i_61, i_62, i_64, i_97, i_110, i_122, i_123, i_125, i_126, i_127, i_160, i_255, i_300, i_400, nx, kl, c19, c26, h4, bex, ma]
    obtain ⟨M1, m1, m2, m3⟩ := mk
    rw [m3]
    unfold f_P_statements_59
    rcases (hS d (m + 1) 0 1 1 M1 tok sc L ((1, d, a, m) :: rest) hn hd (by rw [if_pos (by omega)]) (by rw [if_pos (by omega)]) (hW.to st) m1).from st m2 with ⟨M', c', q1, q2, q3, tok', L', s1, s2, s3, s4, s5⟩ | ⟨M', e, q1, q2, q3, q4⟩
    · subst s1
      have W' := hW.to q2
      have ht' := W'.tok
      have s5 := s5 (by omega)
      rw [Nat.add_sub_cancel] at s5
      have kn := p_kindOf s2.1 (i := qBeh t tok) (by omega)
      have kl2 := kT_lt t (qBeh t tok)
      have gbm : gKp (m + 1) L L' := s4
      have fin : ∀ v' : Nat, v' ≤ 1 → ((qg (L' 5) m).1 = 1 ↔ v' = 1) → gOut b t ((1, d, a, m) :: rest, tok, sc, L) M (f_P_statements_4 rc b (nI d) f (nI v') (nI (j + 1)) M') (fun c' M' => ∃ tok' L', c' = ((1, d, a, m) :: rest, tok', sc, L') ∧ rC M' b t tok' sc L' ∧ tok ≤ tok' ∧ gKp (m + 1) L L' ∧ (kT t tok' = 19 ∨ kT t tok' = 26)) := by
        intro v' hv' hvm'
        refine ((ih (j + 1) tok' v' M' L' (by omega) (by omega) hv' hvm' W' s2).from q2 q3).imp ?_
        intro c2 M2 ⟨tok2, L2, e1, e2, e3, e4, e5⟩
        refine ⟨tok2, L2, e1, e2, by omega, ?_, e5⟩
        exact ⟨⟨Nat.le_trans gbm.1.1 e4.1.1, fun i hi hne => (e4.1.2 i (Nat.lt_of_lt_of_le hi gbm.1.1) hne).trans (gbm.1.2 i hi hne)⟩, ⟨Nat.le_trans gbm.2.1.1 e4.2.1.1, fun i hi => (e4.2.1.2 i (Nat.lt_of_lt_of_le hi gbm.2.1.1)).trans (gbm.2.1.2 i hi)⟩, ⟨Nat.le_trans gbm.2.2.1 e4.2.2.1, fun i hi => (e4.2.2.2 i (Nat.lt_of_lt_of_le hi gbm.2.2.1)).trans (gbm.2.2.2 i hi)⟩⟩
      by_cases c7 : kT t (qBeh t tok) = 7
      · rw [if_pos c7] at s5
        have g := fin 1 (by omega) (by rw [s5])
        rw [c7] at kn
        have k7 : (7 : Nat) < 28 := by omega
        have o : (xbind (rc 1 (nI d) 1 1 M1) fun r16 M => if r16 = 0 then (some (0, M)) else (xbind (f_T_kindOf b (nI (qBeh t tok)) M) fun r19 M => if r19 < 28 then if r19 = 7 then (f_P_statements_91 rc b (nI d) (f_P_statements_4 rc b (nI d) f) (nI v) (nI j) (nI (qBeh t tok)) 1 M) else (f_P_statements_91 rc b (nI d) (f_P_statements_4 rc b (nI d) f) (nI v) (nI j) (nI (qBeh t tok)) 0 M) else none)) = f_P_statements_4 rc b (nI d) f (nI 1) (nI (j + 1)) M' := by
          simp (disch := omega) only [↓reduceIte, nI_leT, nI_leF, nI_ltT, nI_ltF, nI_eqT, nI_eqF, xin_T, nI_clampT, nI_add, nI_inc, pk_subT, xb_some, xval, xlet, mI_s, mI_n, mI_k, mI_2, mJ_1, mJ_s, mJ_n, mJ_k, mJ_2, mT_1, mT_2, mT_s, mT_n, mT_k, mT_3, mR_1, mR_2, mR_3, bI_0, bI_1, bI_n0, bI_n1, Bool.true_eq_false, Bool.false_eq_true, eq_self, i_0, i_1, i_2, i_3, i_4, i_5, i_6, i_7, i_8, i_9, i_10, i_11, i_12, i_13, i_14, i_15, i_16, i_17, i_18, i_19, i_20, i_21, i_22, i_23, i_24, i_25, i_26, i_27, i_28, i_29, i_30, i_31, i_32, i_33, i_34, i_35, i_36, i_37, i_38, i_39, i_40, i_41, i_42, i_43, i_44, i_45, i_48, i_49, i_57, i_59, i_60, i_61, i_62, i_64, i_97, i_110, i_122, i_123, i_125, i_126, i_127, i_160, i_255, i_300, i_400, q1, kn, k7, f_P_statements_91]
        rw [o]; exact g
      · rw [if_neg c7] at s5
        have g := fin 0 (by omega) (by rw [s5])
        have o : (xbind (rc 1 (nI d) 1 1 M1) fun r16 M => if r16 = 0 then (some (0, M)) else (xbind (f_T_kindOf b (nI (qBeh t tok)) M) fun r19 M => if r19 < 28 then if r19 = 7 then (f_P_statements_91 rc b (nI d) (f_P_statements_4 rc b (nI d) f) (nI v) (nI j) (nI (qBeh t tok)) 1 M) else (f_P_statements_91 rc b (nI d) (f_P_statements_4 rc b (nI d) f) (nI v) (nI j) (nI (qBeh t tok)) 0 M) else none)) = f_P_statements_4 rc b (nI d) f (nI 0) (nI (j + 1)) M' := by
          simp (disch := omega) only [↓reduceIte, nI_leT, nI_leF, nI_ltT, nI_ltF, nI_eqT, nI_eqF, xin_T, nI_clampT, nI_add, nI_inc, pk_subT, xb_some, xval, xlet, mI_s, mI_n, mI_k, mI_2, mJ_1, mJ_s, mJ_n, mJ_k, mJ_2, mT_1, mT_2, mT_s, mT_n, mT_k, mT_3, mR_1, mR_2, mR_3, bI_0, bI_1, bI_n0, bI_n1, Bool.true_eq_false, Bool.false_eq_true, eq_self, i_0, i_1, i_2, i_3, i_4, i_5, i_6, i_7, i_8, i_9, i_10, i_11, i_12, i_13, i_14, i_15, i_16, i_17, i_18, i_19, i_20, i_21, i_22, i_23, i_24, i_25, i_26, i_27, i_28, i_29, i_30, i_31, i_32, i_33, i_34, i_35, i_36, i_37, i_38, i_39, i_40, i_41, i_42, i_43, i_44, i_45, i_48, i_49, i_57, i_59, i_60, i_61, i_62, i_64, i_97, i_110, i_122, i_123, i_125, i_126, i_127, i_160, i_255, i_300, i_400, q1, kn, kl2, c7, f_P_statements_91]
        rw [o]; exact g
    · refine .inr ⟨M', e, ?_, q2, q3, q4⟩
      simp (disch := omega) only [↓reduceIte, nI_leT, nI_leF, nI_ltT, nI_ltF, nI_eqT, nI_eqF, xin_T, nI_clampT, nI_add, nI_inc, pk_subT, xb_some, xval, xlet, mI_s, mI_n, mI_k, mI_2, mJ_1, mJ_s, mJ_n, mJ_k, mJ_2, mT_1, mT_2, mT_s, mT_n, mT_k, mT_3, mR_1, mR_2, mR_3, bI_0, bI_1, bI_n0, bI_n1, Bool.true_eq_false, Bool.false_eq_true, eq_self, i_0, i_1, i_2, i_3, i_4, i_5, i_6, i_7, i_8, i_9, i_10, i_11, i_12, i_13, i_14, i_15, i_16, i_17, i_18, i_19, i_20, i_21, i_22, i_23, i_24, i_25, i_26, i_27, i_28, i_29, i_30, i_31, i_32, i_33, i_34, i_35, i_36, i_37, i_38, i_39, i_40, i_41, i_42, i_43, i_44, i_45, i_48, i_49, i_57, i_59, i_60, i_61, i_62, i_64, i_97, i_110, i_122, i_123, i_125, i_126, i_127, i_160, i_255, i_300, i_400, q1]
theorem rec_0 (b n : Nat) (a1 a2 a3 : Int32) (M : xMem) : f_P_rec b (n + 1) 0 a1 a2 a3 M = f_P_statements (f_P_rec b n) b a1 M := by rw [f_P_rec]
theorem rec_1 (b n : Nat) (a1 a2 a3 : Int32) (M : xMem) : f_P_rec b (n + 1) 1 a1 a2 a3 M = f_P_statement (f_P_rec b n) b a1 a2 a3 M := by rw [f_P_rec]
theorem rec_2 (b n : Nat) (a1 a2 a3 : Int32) (M : xMem) : f_P_rec b (n + 1) 2 a1 a2 a3 M = f_P_variable (f_P_rec b n) b a1 a2 M := by rw [f_P_rec]
theorem rec_3 (b n : Nat) (a1 a2 a3 : Int32) (M : xMem) : f_P_rec b (n + 1) 3 a1 a2 a3 M = f_P_function (f_P_rec b n) b a1 M := by rw [f_P_rec]
theorem rec_4 (b n : Nat) (a1 a2 a3 : Int32) (M : xMem) : f_P_rec b (n + 1) 4 a1 a2 a3 M = f_P_block (f_P_rec b n) b a1 a2 M := by rw [f_P_rec]
theorem rec_5 (b n : Nat) (a1 a2 a3 : Int32) (M : xMem) : f_P_rec b (n + 1) 5 a1 a2 a3 M = f_P_choice (f_P_rec b n) b a1 M := by rw [f_P_rec]
theorem rec_6 (b n : Nat) (a1 a2 a3 : Int32) (M : xMem) : f_P_rec b (n + 1) 6 a1 a2 a3 M = f_P_condition (f_P_rec b n) b a1 M := by rw [f_P_rec]
theorem rec_7 (b n : Nat) (a1 a2 a3 : Int32) (M : xMem) : f_P_rec b (n + 1) 7 a1 a2 a3 M = f_P_loop (f_P_rec b n) b a1 M := by rw [f_P_rec]
theorem rec_8 (b n : Nat) (a1 a2 a3 : Int32) (M : xMem) : f_P_rec b (n + 1) 8 a1 a2 a3 M = f_P_leave (f_P_rec b n) b a1 M := by rw [f_P_rec]
theorem rec_9 (b n : Nat) (a1 a2 a3 : Int32) (M : xMem) : f_P_rec b (n + 1) 9 a1 a2 a3 M = f_P_excuse (f_P_rec b n) b a1 a2 M := by rw [f_P_rec]
theorem rec_10 (b n : Nat) (a1 a2 a3 : Int32) (M : xMem) : f_P_rec b (n + 1) 10 a1 a2 a3 M = f_P_value (f_P_rec b n) b a1 M := by rw [f_P_rec]
theorem rec_11 (b n : Nat) (a1 a2 a3 : Int32) (M : xMem) : f_P_rec b (n + 1) 11 a1 a2 a3 M = f_P_part (f_P_rec b n) b a1 M := by rw [f_P_rec]
theorem rec_12 (b n : Nat) (a1 a2 a3 : Int32) (M : xMem) : f_P_rec b (n + 1) 12 a1 a2 a3 M = f_P_use (f_P_rec b n) b a1 M := by rw [f_P_rec]
theorem rec_13 (b n : Nat) (a1 a2 a3 : Int32) (M : xMem) : f_P_rec b (n + 1) 13 a1 a2 a3 M = f_P_arguments (f_P_rec b n) b a1 M := by rw [f_P_rec]
/-- the whole grammar, m calls deep -/
def sAll (b : Nat) (t : List Nat) (n : Nat) : Prop := sLst b t (f_P_rec b n) n ∧ sSt b t (f_P_rec b n) n ∧ sVar b t (f_P_rec b n) n ∧ sFn b t (f_P_rec b n) n ∧ sBlk b t (f_P_rec b n) n ∧ sIf b t (f_P_rec b n) n ∧ sExc b t (f_P_rec b n) n ∧ sCond b t (f_P_rec b n) n ∧ sVal b t (f_P_rec b n) n ∧ sPart b t (f_P_rec b n) n ∧ sUse b t (f_P_rec b n) n ∧ sArg b t (f_P_rec b n) n
theorem g_all (b : Nat) (t : List Nat) : ∀ n, sAll b t n := by
  intro n
  induction n with
  | zero =>
    refine ⟨?_, ?_, ?_, ?_, ?_, ?_, ?_, ?_, ?_, ?_, ?_, ?_⟩
    · intro d a m M tok sc L rest hn; omega
    · intro d a how r1 r2 M tok sc L rest hn; omega
    · intro d a how k M tok sc L rest hn; omega
    · intro d a how M tok sc L rest hn; omega
    · intro d a how r1 M tok sc L rest hn; omega
    · intro d a how M tok sc L rest hn; omega
    · intro d a how r2 M tok sc L rest hn; omega
    · intro d M tok sc L rest hn; omega
    · intro d a M tok sc L rest hn; omega
    · intro d M tok sc L rest hn hd; omega
    · intro d M tok sc L rest hn hd; omega
    · intro d M tok sc L rest hn; omega
  | succ n ih =>
    obtain ⟨hL, hS, h2, h3, hB, hI, hE, hC, hV, hP, hU, hA⟩ := ih
    refine ⟨?_, ?_, ?_, ?_, ?_, ?_, ?_, ?_, ?_, ?_, ?_, ?_⟩
    · intro d a m M tok sc L rest hn hd h0 hW hR
      rw [rec_0]; unfold f_P_statements
      exact g_list hS hd (by omega) xFuel 0 tok 0 M L (by omega) (by unfold xFuel; omega) (by omega) (by rw [h0]) hW hR
    · intro d a how r1 r2 M tok sc L rest hn hd e1 e2 hW hR
      rw [rec_1]
      exact g_statement hV h2 h3 hB hI hE (by omega) hd e1 e2 hW hR
    · intro d a how k M tok sc L rest hn hd hh hk hk2 hW hR
      rw [rec_2]
      exact g_var hV (by omega) hd hh hk hk2 hW hR
    · intro d a how M tok sc L rest hn hd hh hk hW hR
      rw [rec_3]
      exact g_fn hL (by omega) hd hh hk hW hR
    · intro d a how r1 M tok sc L rest hn hd hk hr hW hR
      rw [rec_4]
      exact g_block hL (by omega) hd hk hr hW hR
    · intro d a how M tok sc L rest hn hd hW hR
      rw [rec_5, rec_7, rec_8]
      exact ⟨fun hk => g_if hC hS (by omega) hd hk hW hR, fun hk => g_loop hC hS (by omega) hd hk hW hR, fun hk hh => g_leave hV (by omega) hd hk hh hW hR⟩
    · intro d a how r2 M tok sc L rest hn hd hk hr hW hR
      rw [rec_9]
      exact g_excuse hS (by omega) hd hk hr hW hR
    · intro d M tok sc L rest hn hd ht hR
      rw [rec_6]
      exact g_cond hV (by omega) hd ht hR
    · intro d a M tok sc L rest hn hd hW hR
      rw [rec_10]
      exact g_value hV hP (by omega) hd hW hR
    · intro d M tok sc L rest hn hd hW hR
      rw [rec_11]
      exact g_part hV hP hU hn hd hW hR
    · intro d M tok sc L rest hn hd hW hR hk
      rw [rec_12]
      exact g_use hA (by omega) hd hW hR hk
    · intro d M tok sc L rest hn hd hW hR
      rw [rec_13]; unfold f_P_arguments
      exact g_args_2 hV hd (by omega) xFuel 0 tok M L (by omega) (by unfold xFuel; omega) hW hR
/-- the class's grammar over a text that has been cut into TOKENS -/
theorem p_program {M : xMem} {b : Nat} {t : List Nat} (h : pLx M b t) : (∃ e M', qRun (kT t) (wT' t) (dT t) = .inl e ∧ e ≤ nT t ∧ f_P_program b M = some (nI (pS (pLex t) e), M') ∧ pFr (b + 8) (b + 30) M M') ∨ (∃ tok sc L M', qRun (kT t) (wT' t) (dT t) = .inr ([], tok, sc, L) ∧ f_P_program b M = some (-1, M') ∧ rC M' b t tok sc L ∧ pFr (b + 8) (b + 30) M M') := by
  have hT := nT_le t
  have pl := pLex_len t
  obtain ⟨M1, c1, c2, c3⟩ := p_clear h (fun M => xbind (f_P_rec b 150 0 1 0 0 M) fun r23 M => if r23 = 0 then (f_P_program_53 b M) else (xbind (f_P_next b M) fun r26 M => if r26 < 28 then if r26 = 26 then (f_P_program_54 b 1 M) else (f_P_program_53 b M) else none))
  have o : f_P_program b M = (xbind (f_P_rec b 150 0 1 0 0 M1) fun r23 M => if r23 = 0 then (f_P_program_53 b M) else (xbind (f_P_next b M) fun r26 M => if r26 < 28 then if r26 = 26 then (f_P_program_54 b 1 M) else (f_P_program_53 b M) else none)) := c1
  rw [o]
  have W0 : gW t q0 := q_well_0
  have fail : ∀ (M' : xMem) (e : Nat), e ≤ nT t → M'.1 (b + 29) 4 = nI e → pFr (b + 8) (b + 30) M M' → f_P_program_53 b M' = some (nI (pS (pLex t) e), M') := by
    intro M' e he h4 fr
    unfold f_P_program_53 f_P_program_54
    have st := p_startOf (h.fr fr (by omega)) (i := e) (by unfold nT at he; omega)
    simp (disch := omega) only [↓reduceIte, nI_leT, nI_leF, nI_ltT, nI_ltF, nI_eqT, nI_eqF, xin_T, nI_clampT, nI_add, nI_inc, pk_subT, xb_some, xval, xlet, mI_s, mI_n, mI_k, mI_2, mJ_1, mJ_s, mJ_n, mJ_k, mJ_2, mT_1, mT_2, mT_s, mT_n, mT_k, mT_3, mR_1, mR_2, mR_3, bI_0, bI_1, bI_n0, bI_n1, Bool.true_eq_false, Bool.false_eq_true, eq_self, i_0, i_1, i_2, i_3, i_4, i_5, i_6, i_7, i_8, i_9, i_10, i_11, i_12, i_13, i_14, i_15, i_16, i_17, i_18, i_19, i_20, i_21, i_22, i_23, i_24, i_25, i_26, i_27, i_28, i_29, i_30, i_31, i_32, i_33, i_34, i_35, i_36, i_37, i_38, i_39, i_40, i_41, i_42, i_43, i_44, i_45, i_48, i_49, i_57, i_59, i_60, i_61, i_62, i_64, i_97, i_110, i_122, i_123, i_125, i_126, i_127, i_160, i_255, i_300, i_400, h4, st]
  rcases (g_all b t 150).1 1 26 0 M1 0 0 q0.2.2.2 [] (by omega) (by omega) rfl W0 c2 with ⟨M', c', q1, q2, q3, tok', L', s1, s2, s3, s4, s5⟩ | ⟨M', e, q1, q2, q3, q4⟩
  · subst s1
    have W' := W0.to q2
    have ht' := W'.tok
    have nx := p_next s2 (by omega)
    by_cases c26 : kT t tok' = 26
    · right
      have st : gTo t ((1, 1, 26, 0) :: [], tok', 0, L') (.inr ([], tok', 0, L')) := gTo.one (by
        show qLst (kT t) 1 26 0 [] tok' 0 L' = _
        unfold qLst; rw [if_neg (by omega), if_neg (by decide)])
      obtain ⟨m, hm⟩ := q2.trans st
      refine ⟨tok', 0, L', M', ?_, ?_, s2, c3.trans q3⟩
      · exact q_run_any (g_T t) hT hm (.inr ⟨_, _, _, rfl⟩)
      · rw [c26] at nx
        have k26 : (26 : Nat) < 28 := by omega
        simp (disch := omega) only [↓reduceIte, nI_leT, nI_leF, nI_ltT, nI_ltF, nI_eqT, nI_eqF, xin_T, nI_clampT, nI_add, nI_inc, pk_subT, xb_some, xval, xlet, mI_s, mI_n, mI_k, mI_2, mJ_1, mJ_s, mJ_n, mJ_k, mJ_2, mT_1, mT_2, mT_s, mT_n, mT_k, mT_3, mR_1, mR_2, mR_3, bI_0, bI_1, bI_n0, bI_n1, Bool.true_eq_false, Bool.false_eq_true, eq_self, i_0, i_1, i_2, i_3, i_4, i_5, i_6, i_7, i_8, i_9, i_10, i_11, i_12, i_13, i_14, i_15, i_16, i_17, i_18, i_19, i_20, i_21, i_22, i_23, i_24, i_25, i_26, i_27, i_28, i_29, i_30, i_31, i_32, i_33, i_34, i_35, i_36, i_37, i_38, i_39, i_40, i_41, i_42, i_43, i_44, i_45, i_48, i_49, i_57, i_59, i_60, i_61, i_62, i_64, i_97, i_110, i_122, i_123, i_125, i_126, i_127, i_160, i_255, i_300, i_400, q1, nx, k26, f_P_program_54]
    · left
      obtain ⟨m, hm⟩ := q2.trans (g_end s5 c26)
      refine ⟨tok', M', ?_, ht'.1, ?_, c3.trans q3⟩
      · exact q_run_any (g_T t) hT hm (.inl ⟨_, rfl⟩)
      · have kl := kT_lt t tok'
        have fl := fail M' tok' ht'.1 s2.2.1 (c3.trans q3)
        simp (disch := omega) only [↓reduceIte, nI_leT, nI_leF, nI_ltT, nI_ltF, nI_eqT, nI_eqF, xin_T, nI_clampT, nI_add, nI_inc, pk_subT, xb_some, xval, xlet, mI_s, mI_n, mI_k, mI_2, mJ_1, mJ_s, mJ_n, mJ_k, mJ_2, mT_1, mT_2, mT_s, mT_n, mT_k, mT_3, mR_1, mR_2, mR_3, bI_0, bI_1, bI_n0, bI_n1, Bool.true_eq_false, Bool.false_eq_true, eq_self, i_0, i_1, i_2, i_3, i_4, i_5, i_6, i_7, i_8, i_9, i_10, i_11, i_12, i_13, i_14, i_15, i_16, i_17, i_18, i_19, i_20, i_21, i_22, i_23, i_24, i_25, i_26, i_27, i_28, i_29, i_30, i_31, i_32, i_33, i_34, i_35, i_36, i_37, i_38, i_39, i_40, i_41, i_42, i_43, i_44, i_45, i_48, i_49, i_57, i_59, i_60, i_61, i_62, i_64, i_97, i_110, i_122, i_123, i_125, i_126, i_127, i_160, i_255, i_300, i_400, q1, nx, kl, c26, fl]
  · left
    obtain ⟨m, hm⟩ := q2
    have er := q_run_any (g_T t) hT hm (.inl ⟨_, rfl⟩)
    have he : e ≤ nT t := by
      rcases q_run_ends (wd := wT' t) (dg := dT t) (g_T t) hT with ⟨e', h1, h2⟩ | ⟨_, _, _, h2⟩
      · rw [er] at h2; cases h2; exact h1
      · rw [er] at h2; cases h2
    refine ⟨e, M', er, he, ?_, c3.trans q3⟩
    have fl := fail M' e he q4 (c3.trans q3)
    simp (disch := omega) only [↓reduceIte, nI_leT, nI_leF, nI_ltT, nI_ltF, nI_eqT, nI_eqF, xin_T, nI_clampT, nI_add, nI_inc, pk_subT, xb_some, xval, xlet, mI_s, mI_n, mI_k, mI_2, mJ_1, mJ_s, mJ_n, mJ_k, mJ_2, mT_1, mT_2, mT_s, mT_n, mT_k, mT_3, mR_1, mR_2, mR_3, bI_0, bI_1, bI_n0, bI_n1, Bool.true_eq_false, Bool.false_eq_true, eq_self, i_0, i_1, i_2, i_3, i_4, i_5, i_6, i_7, i_8, i_9, i_10, i_11, i_12, i_13, i_14, i_15, i_16, i_17, i_18, i_19, i_20, i_21, i_22, i_23, i_24, i_25, i_26, i_27, i_28, i_29, i_30, i_31, i_32, i_33, i_34, i_35, i_36, i_37, i_38, i_39, i_40, i_41, i_42, i_43, i_44, i_45, i_48, i_49, i_57, i_59, i_60, i_61, i_62, i_64, i_97, i_110, i_122, i_123, i_125, i_126, i_127, i_160, i_255, i_300, i_400, q1, fl]
