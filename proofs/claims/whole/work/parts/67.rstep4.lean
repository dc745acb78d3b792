/-! PURE: steps of the reference's grammar: fns, all of them -/
theorem nRs.from {M M1 : xMem} {b : Nat} {t : List Nat} {R : Nat ⊕ qC} {o : Option (Unit × xMem)} (h : nRs M1 b t R o) (f : rF (rGrS b) M M1) (h5 : M1.1 b 55 = M.1 b 55) : nRs M b t R o := by
  obtain ⟨M', a1, a2, a3, a4⟩ := h
  exact ⟨M', a1, f.trans a2, a3.trans h5, a4⟩
/-- behind m PARAMETERS fewer than four -/
def qY (t : List Nat) (sc m tok : Nat) (L : qL) : Nat ⊕ (Nat × qL) := if m ≠ 0 ∧ kT t tok = 21 then qPar (kT t) (wT' t) sc m (tok + 1) L else .inr (tok, L)
theorem qY_par {t : List Nat} {sc m tok : Nat} {L : qL} : qPar (kT t) (wT' t) sc (m + 1) tok L = if kT t tok ≠ 23 then .inl tok else qY t sc m (tok + 1) (qDecL (wT' t) tok 4 sc L) := by
  rw [qPar]; rfl
theorem r_56 {b d sc tok0 : Nat} {t : List Nat} {r : List qI} (hr : r.length ≤ 200) : ∀ (m fuel tok : Nat) (mm : Nat → Nat) (M : xMem) (L : qL), m ≤ 3 → m + 2 ≤ fuel → tok ≤ nT t → 1 ≤ tok → kT t (tok - 1) = 23 → nQ M b t r tok sc L → M.1 b 4 = -1 → qOk (kT t) mm sc L → mm 0 ≤ 61 → mm 1 ≤ tok → mm 14 ≤ tok → (L 5).length < 64 → (m = 0 → kT t tok = 17) → nRs M b t (qsBody (kT t) d r tok0 sc (qY t sc m tok L)) (f_N_function_56 b (nI d) fuel (nI (4 - m)) M) := by
  have hT := nT_le t
  intro m
  induction m with
  | zero =>
    intro fuel tok mm M L _ hf ht h1 hk h h4 ok _ _ _ h5 hm
    obtain ⟨f, rfl⟩ : ∃ f, fuel = f + 1 := ⟨fuel - 1, by omega⟩
    have c17 := hm rfl
    have eY : qY t sc 0 tok L = .inr (tok, L) := by unfold qY; rw [if_neg (by omega)]
    rw [eY]
    have is : f_N_is b 21 M = some (nI 1, M) := r_isT (k := 17) h.1 h.2.1 ht c17
    have ek : M.1 (b + 8) (tok - 1) = nI 1 := by have := (r_kind h.1 (show tok - 1 ≤ nT t by omega)).1; rw [hk] at this; exact this
    have g := r_154 (d := d) (tok0 := tok0) (v := nI (4 - 0)) h h4 ht hr h5
    have o : f_N_function_56 b (nI d) (f + 1) (nI (4 - 0)) M = f_N_function_154 b (nI d) (nI (4 - 0)) M := by
      rw [f_N_function_56, if_neg (show ¬ 0 ≤ M.1 b 4 by rw [h4]; decide), is, xb_some, if_neg (by decide), if_neg (by decide), h.2.1, show nI tok - 1 = nI (tok - 1) from pk_subT h1, if_pos (xin_T (by omega) (by omega)), nI_clampT (by omega), ek, if_pos (show nI 1 = 1 from rfl)]
    rw [o]; exact g
  | succ m ih =>
    intro fuel tok mm M L hm3 hf ht h1 hk h h4 ok hm0 hm1 hm14 h5 _
    obtain ⟨f, rfl⟩ : ∃ f, fuel = f + 2 := ⟨fuel - 2, by omega⟩
    have ek : M.1 (b + 8) (tok - 1) = nI 1 := by have := (r_kind h.1 (show tok - 1 ≤ nT t by omega)).1; rw [hk] at this; exact this
    have le0 := pS_lt t tok h.1.1.2.1
    have le1 := pS_lt t (tok + 1) h.1.1.2.1
    have le2 := pS_lt t (tok + 2) h.1.1.2.1
    by_cases c17 : kT t tok = 17
    · have eY : qY t sc (m + 1) tok L = .inr (tok, L) := by unfold qY; rw [if_neg (by omega)]
      rw [eY]
      have is : f_N_is b 21 M = some (nI 1, M) := r_isT (k := 17) h.1 h.2.1 ht c17
      have g := r_154 (d := d) (tok0 := tok0) (v := nI (4 - (m + 1))) h h4 ht hr h5
      have o : f_N_function_56 b (nI d) (f + 2) (nI (4 - (m + 1))) M = f_N_function_154 b (nI d) (nI (4 - (m + 1))) M := by
        rw [f_N_function_56, if_neg (show ¬ 0 ≤ M.1 b 4 by rw [h4]; decide), is, xb_some, if_neg (by decide), if_neg (show ¬ nI (4 - (m + 1)) = 0 from fun e => by have := (nI_eq (a := 4 - (m + 1)) (b := 0) (by omega) (by omega)).mp e; omega), h.2.1, show nI tok - 1 = nI (tok - 1) from pk_subT h1, if_pos (xin_T (by omega) (by omega)), nI_clampT (by omega), ek, if_pos (show nI 1 = 1 from rfl)]
      rw [o]; exact g
    have is : f_N_is b 21 M = some (nI 0, M) := r_isF (k := 17) h.1 h.2.1 ht (by omega) c17
    have o : f_N_function_56 b (nI d) (f + 2) (nI (4 - (m + 1))) M = xbind (f_N_takes b 25 M) (fun _ M => f_N_function_101 b (nI d) (f_N_function_56 b (nI d) (f + 1)) (nI (4 - (m + 1))) M) := by
      rw [f_N_function_56, if_neg (show ¬ 0 ≤ M.1 b 4 by rw [h4]; decide), is, xb_some, if_pos (show nI 0 = 0 from rfl)]
      unfold f_N_function_91
      rw [if_neg (show ¬ nI (4 - (m + 1)) ≤ 0 from (nI_ge (a := 0) (by omega) (by omega) : ¬ nI (4 - (m + 1)) ≤ nI 0))]
    rw [o]
    by_cases c21 : kT t tok = 21
    · have t1 := g_T t tok ht (by omega)
      have tk : f_N_takes b 25 M = some ((), wI M b 7 (nI (tok + 1))) := r_takesT (k := 21) h.1 h.2.1 h4 ht c21
      have q1 := h.at (tok' := tok + 1)
      have b4 : (wI M b 7 (nI (tok + 1))).1 b 4 = -1 := by rw [mI_k (by decide)]; exact h4
      rw [tk, xb_some]
      unfold f_N_function_101
      have eY : qY t sc (m + 1) tok L = if kT t (tok + 1) ≠ 23 then .inl (tok + 1) else qY t sc m (tok + 2) (qDecL (wT' t) (tok + 1) 4 sc L) := by
        unfold qY; rw [if_pos ⟨by omega, c21⟩, qY_par]; rfl
      rw [eY]
      by_cases c23 : kT t (tok + 1) = 23
      · rw [if_neg (fun e => e c23)]
        have t2 := g_T t (tok + 1) t1 (by omega)
        have tk2 : f_N_takes b 1 (wI M b 7 (nI (tok + 1))) = some ((), wI (wI M b 7 (nI (tok + 1))) b 7 (nI (tok + 2))) := r_takesT (k := 23) q1.1 q1.2.1 b4 t1 c23
        have q2 := q1.at (tok' := tok + 2)
        have b42 : (wI (wI M b 7 (nI (tok + 1))) b 7 (nI (tok + 2))).1 b 4 = -1 := by rw [mI_k (by decide)]; exact b4
        obtain ⟨M2, d1, d2, d3, d4, d5⟩ := r_declares' (p := tok + 1) (k := 4) q2 ok (by omega) (by omega) (by omega) c23 (by omega)
        have okd := (ok_dec (wd := wT' t) (tok := tok + 1) (sort := 4) ok (by omega) (by omega) c23 (by omega)).1
        have m4 : M2.1 b 4 = -1 := by rw [d4]; exact b42
        have g2 : rF (rGrS b) M M2 := (gr_7.trans gr_7).trans d3
        have m5 : M2.1 b 55 = M.1 b 55 := by rw [d5, mI_k (by decide), mI_k (by decide)]
        have h5' : (qDecL (wT' t) (tok + 1) 4 sc L 5).length < 64 := by rw [q_dec_5]; exact h5
        have en : nI (4 - (m + 1)) + Int32.ofInt 1 = nI (4 - m) := by rw [nI_inc]; congr 1; omega
        have o2 : (xbind (f_N_takes b 1 (wI M b 7 (nI (tok + 1)))) fun r36 M => if 0 ≤ M.1 b 4 then (f_N_function_125 b (nI d) (f_N_function_56 b (nI d) (f + 1)) (nI (4 - (m + 1))) M) else (xval ((M.1 b 7) - 1) fun x39 => xbind (f_N_declares b x39 4 M) fun r40 M => f_N_function_125 b (nI d) (f_N_function_56 b (nI d) (f + 1)) (nI (4 - (m + 1))) M)) = f_N_function_125 b (nI d) (f_N_function_56 b (nI d) (f + 1)) (nI (4 - (m + 1))) M2 := by
          rw [tk2, xb_some, if_neg (show ¬ 0 ≤ (wI (wI M b 7 (nI (tok + 1))) b 7 (nI (tok + 2))).1 b 4 by rw [b42]; decide)]
          show xbind (f_N_declares b ((wI (wI M b 7 (nI (tok + 1))) b 7 (nI (tok + 2))).1 b 7 - 1) 4 _) _ = _
          rw [q2.2.1, show nI (tok + 2) - 1 = nI (tok + 1) from pk_subT (a := tok + 2) (b := 1) (by omega)]
          show xbind (f_N_declares b (nI (tok + 1)) (nI 4) _) _ = _
          rw [d1, xb_some]
        rw [o2]
        unfold f_N_function_125 f_N_function_147 f_N_function_148
        rw [en]
        by_cases c0 : m = 0
        · subst c0
          rw [if_pos (show nI (4 - 0) = 4 from rfl)]
          by_cases c17' : kT t (tok + 2) = 17
          · have is2 : f_N_is b 21 M2 = some (nI 1, M2) := r_isT (k := 17) d2.1 d2.2.1 t2 c17'
            rw [is2, xb_some, if_neg (by decide)]
            show nRs _ _ _ _ (xbind (f_N_wrongs b (nI 0) M2) _)
            rw [r_wrongs0, xb_some]
            exact (ih (f + 1) (tok + 2) _ M2 _ (by omega) (by omega) t2 (by omega) c23 d2 m4 okd (by simp; omega) (by simp) (by simp) h5' (fun _ => c17')).from g2 m5
          · have is2 : f_N_is b 21 M2 = some (nI 0, M2) := r_isF (k := 17) d2.1 d2.2.1 t2 (by omega) c17'
            rw [is2, xb_some, if_pos (show nI 0 = 0 from rfl)]
            have wr := r_wrongs1 d2.1 d2.2.1 m4 t2
            show nRs _ _ _ _ (xbind (f_N_wrongs b (nI 1) M2) _)
            rw [wr, xb_some]
            obtain ⟨M', u1, u2, u3, u4⟩ := r_56B (d := d) (f := f) (v := nI (4 - 0)) (d2.bad (v := nI (pS (pLex t) (tok + 2)))) (by simp (disch := omega) only [↓reduceIte, nI_leT, nI_leF, nI_ltT, nI_ltF, nI_eqT, nI_eqF, xin_T, nI_clampT, nI_add, nI_inc, pk_subT, xb_some, xval, xlet, mI_s, mI_n, mI_k, mI_2, mJ_1, mJ_s, mJ_n, mJ_k, mJ_2, mT_1, mT_2, mT_s, mT_n, mT_k, mT_3, mR_1, mR_2, mR_3, bI_0, bI_1, bI_n0, bI_n1, Bool.true_eq_false, Bool.false_eq_true, eq_self, i_0, i_1, i_2, i_3, i_4, i_5, i_6, i_7, i_8, i_9, i_10, i_11, i_12, i_13, i_14, i_15, i_16, i_17, i_18, i_19, i_20, i_21, i_22, i_23, i_24, i_25, i_26, i_27, i_28, i_29, i_30, i_31, i_32, i_33, i_34, i_35, i_36, i_37, i_38, i_39, i_40, i_41, i_42, i_43, i_44, i_45, i_48, i_49, i_57, i_59, i_60, i_61, i_62, i_64, i_97, i_110, i_122, i_123, i_125, i_126, i_127, i_160, i_255, i_300, i_400]) le2 (by omega) hr h5'
            have eQ : qsBody (kT t) d r tok0 sc (qY t sc 0 (tok + 2) (qDecL (wT' t) (tok + 1) 4 sc L)) = .inl (tok + 2) := by
              unfold qY; rw [if_neg (by omega)]; unfold qsBody; dsimp only; rw [if_pos c17']
            rw [eQ]
            exact .inl u1 ((g2.trans gr_4).trans u2) (by rw [u4, mI_k (by decide)]; exact m5) u3
        · rw [if_neg (show ¬ nI (4 - m) = 4 from fun e => by have := (nI_eq (a := 4 - m) (b := 4) (by omega) (by omega)).mp e; omega)]
          show nRs _ _ _ _ (xbind (f_N_wrongs b (nI 0) M2) _)
          rw [r_wrongs0, xb_some]
          exact (ih (f + 1) (tok + 2) _ M2 _ (by omega) (by omega) t2 (by omega) c23 d2 m4 okd (by simp; omega) (by simp) (by simp) h5' (fun e => absurd e c0)).from g2 m5
      · rw [if_pos c23]
        have tk2 : f_N_takes b 1 (wI M b 7 (nI (tok + 1))) = some ((), wI (wI M b 7 (nI (tok + 1))) b 4 (nI (pS (pLex t) (tok + 1)))) := r_takesF (k := 23) q1.1 q1.2.1 b4 t1 (by omega) c23
        rw [tk2, xb_some, if_pos (show 0 ≤ (wI (wI M b 7 (nI (tok + 1))) b 4 (nI (pS (pLex t) (tok + 1)))).1 b 4 by rw [mI_s rfl rfl]; exact nI_le (Nat.zero_le _) (by omega))]
        obtain ⟨M', u1, u2, u3, u4⟩ := r_125B (d := d) (f := f) (n := 4 - (m + 1)) (q1.bad (v := nI (pS (pLex t) (tok + 1)))) (by simp (disch := omega) only [↓reduceIte, nI_leT, nI_leF, nI_ltT, nI_ltF, nI_eqT, nI_eqF, xin_T, nI_clampT, nI_add, nI_inc, pk_subT, xb_some, xval, xlet, mI_s, mI_n, mI_k, mI_2, mJ_1, mJ_s, mJ_n, mJ_k, mJ_2, mT_1, mT_2, mT_s, mT_n, mT_k, mT_3, mR_1, mR_2, mR_3, bI_0, bI_1, bI_n0, bI_n1, Bool.true_eq_false, Bool.false_eq_true, eq_self, i_0, i_1, i_2, i_3, i_4, i_5, i_6, i_7, i_8, i_9, i_10, i_11, i_12, i_13, i_14, i_15, i_16, i_17, i_18, i_19, i_20, i_21, i_22, i_23, i_24, i_25, i_26, i_27, i_28, i_29, i_30, i_31, i_32, i_33, i_34, i_35, i_36, i_37, i_38, i_39, i_40, i_41, i_42, i_43, i_44, i_45, i_48, i_49, i_57, i_59, i_60, i_61, i_62, i_64, i_97, i_110, i_122, i_123, i_125, i_126, i_127, i_160, i_255, i_300, i_400]) le1 t1 hr h5 (by omega)
        exact .inl u1 ((gr_7.trans gr_4).trans u2) (by rw [u4, mI_k (by decide), mI_k (by decide)]) u3
    · have tk : f_N_takes b 25 M = some ((), wI M b 4 (nI (pS (pLex t) tok))) := r_takesF (k := 21) h.1 h.2.1 h4 ht (by omega) c21
      have q1 := h.bad (v := nI (pS (pLex t) tok))
      have eY : qsBody (kT t) d r tok0 sc (qY t sc (m + 1) tok L) = .inl tok := by
        unfold qY; rw [if_neg (by omega)]; unfold qsBody; dsimp only; rw [if_pos c17]
      rw [eY, tk, xb_some]
      unfold f_N_function_101
      have tk2 : f_N_takes b 1 (wI M b 4 (nI (pS (pLex t) tok))) = some ((), wI M b 4 (nI (pS (pLex t) tok))) := r_takesB (e := pS (pLex t) tok) q1.2.1 (by simp (disch := omega) only [↓reduceIte, nI_leT, nI_leF, nI_ltT, nI_ltF, nI_eqT, nI_eqF, xin_T, nI_clampT, nI_add, nI_inc, pk_subT, xb_some, xval, xlet, mI_s, mI_n, mI_k, mI_2, mJ_1, mJ_s, mJ_n, mJ_k, mJ_2, mT_1, mT_2, mT_s, mT_n, mT_k, mT_3, mR_1, mR_2, mR_3, bI_0, bI_1, bI_n0, bI_n1, Bool.true_eq_false, Bool.false_eq_true, eq_self, i_0, i_1, i_2, i_3, i_4, i_5, i_6, i_7, i_8, i_9, i_10, i_11, i_12, i_13, i_14, i_15, i_16, i_17, i_18, i_19, i_20, i_21, i_22, i_23, i_24, i_25, i_26, i_27, i_28, i_29, i_30, i_31, i_32, i_33, i_34, i_35, i_36, i_37, i_38, i_39, i_40, i_41, i_42, i_43, i_44, i_45, i_48, i_49, i_57, i_59, i_60, i_61, i_62, i_64, i_97, i_110, i_122, i_123, i_125, i_126, i_127, i_160, i_255, i_300, i_400]) le0 (by omega)
      rw [tk2, xb_some, if_pos (show 0 ≤ (wI M b 4 (nI (pS (pLex t) tok))).1 b 4 by rw [mI_s rfl rfl]; exact nI_le (Nat.zero_le _) (by omega))]
      obtain ⟨M', u1, u2, u3, u4⟩ := r_125B (d := d) (f := f) (n := 4 - (m + 1)) q1 (by simp (disch := omega) only [↓reduceIte, nI_leT, nI_leF, nI_ltT, nI_ltF, nI_eqT, nI_eqF, xin_T, nI_clampT, nI_add, nI_inc, pk_subT, xb_some, xval, xlet, mI_s, mI_n, mI_k, mI_2, mJ_1, mJ_s, mJ_n, mJ_k, mJ_2, mT_1, mT_2, mT_s, mT_n, mT_k, mT_3, mR_1, mR_2, mR_3, bI_0, bI_1, bI_n0, bI_n1, Bool.true_eq_false, Bool.false_eq_true, eq_self, i_0, i_1, i_2, i_3, i_4, i_5, i_6, i_7, i_8, i_9, i_10, i_11, i_12, i_13, i_14, i_15, i_16, i_17, i_18, i_19, i_20, i_21, i_22, i_23, i_24, i_25, i_26, i_27, i_28, i_29, i_30, i_31, i_32, i_33, i_34, i_35, i_36, i_37, i_38, i_39, i_40, i_41, i_42, i_43, i_44, i_45, i_48, i_49, i_57, i_59, i_60, i_61, i_62, i_64, i_97, i_110, i_122, i_123, i_125, i_126, i_127, i_160, i_255, i_300, i_400]) le0 ht hr h5 (by omega)
      exact .inl u1 (gr_4.trans u2) (by rw [u4, mI_k (by decide)]) u3
theorem rs_fn {M : xMem} {b d tok sc : Nat} {t : List Nat} {r : List qI} {L : qL} (h : nQ M b t r tok sc L) (h4 : M.1 b 4 = -1) (ht : tok ≤ nT t) (hr : r.length ≤ 200) (h5 : (L 5).length < 64) (ok : qOk (kT t) (fun _ => tok) sc L) (hk : kT t tok = 3) : nRs M b t (qsFn (kT t) (wT' t) d r tok sc L) (f_N_function b (nI d) M) := by
  have hT := nT_le t
  have h7 := h.2.1
  have t1 := g_T t tok ht (by omega)
  have q1 := h.at (tok' := tok + 1)
  have b4 : (wI M b 7 (nI (tok + 1))).1 b 4 = -1 := by rw [mI_k (by decide)]; exact h4
  have le1 := pS_lt t (tok + 1) h.1.1.2.1
  have le2 := pS_lt t (tok + 2) h.1.1.2.1
  have le3 := pS_lt t (tok + 3) h.1.1.2.1
  unfold qsFn f_N_function
  rw [h7, show nI tok + 1 = nI (tok + 1) from nI_1 tok]
  show nRs _ _ _ _ (xbind (f_N_takes b (nI 1) (wI M b 7 (nI (tok + 1)))) _)
  by_cases c1 : kT t (tok + 1) = 23
  · rw [if_neg (fun e => e c1)]
    have t2 := g_T t (tok + 1) t1 (by omega)
    have tk : f_N_takes b (nI 1) (wI M b 7 (nI (tok + 1))) = some ((), wI (wI M b 7 (nI (tok + 1))) b 7 (nI (tok + 2))) := r_takesT (k := 23) q1.1 q1.2.1 b4 t1 c1
    have q2 := q1.at (tok' := tok + 2)
    have b42 : (wI (wI M b 7 (nI (tok + 1))) b 7 (nI (tok + 2))).1 b 4 = -1 := by rw [mI_k (by decide)]; exact b4
    obtain ⟨M2, d1, d2, d3, d4, d5⟩ := r_declares' (p := tok + 1) (k := 3) q2 ok (by omega) (by omega) (by omega) c1 (by omega)
    have okd := (ok_dec (wd := wT' t) (tok := tok + 1) (sort := 3) ok (by omega) (by omega) c1 (by omega)).1
    have m4 : M2.1 b 4 = -1 := by rw [d4]; exact b42
    have g2 : rF (rGrS b) M M2 := (gr_7.trans gr_7).trans d3
    have m5 : M2.1 b 55 = M.1 b 55 := by rw [d5, mI_k (by decide), mI_k (by decide)]
    have l0 := ok_len0 okd
    have l0 : (qDecL (wT' t) (tok + 1) 3 sc L 0).length ≤ tok + 1 := l0
    have h5' : (qDecL (wT' t) (tok + 1) 3 sc L 5).length < 64 := by rw [q_dec_5]; exact h5
    generalize hL2 : qDecL (wT' t) (tok + 1) 3 sc L = L2 at *
    rw [tk, xb_some, if_pos (show (wI (wI M b 7 (nI (tok + 1))) b 7 (nI (tok + 2))).1 b 4 < 0 by rw [b42]; decide)]
    show nRs _ _ _ _ (xbind (f_N_declares b ((wI (wI M b 7 (nI (tok + 1))) b 7 (nI (tok + 2))).1 b 7 - 1) (nI 3) _) _)
    rw [q2.2.1, show nI (tok + 2) - 1 = nI (tok + 1) from pk_subT (a := tok + 2) (b := 1) (by omega), d1, xb_some]
    by_cases c2 : kT t (tok + 2) = 16
    · rw [if_neg (fun e => e c2)]
      have t3 := g_T t (tok + 2) t2 (by omega)
      have tk2 : f_N_takes b 20 M2 = some ((), wI M2 b 7 (nI (tok + 3))) := r_takesT (k := 16) d2.1 d2.2.1 m4 t2 c2
      have q3 := d2.at (tok' := tok + 3)
      have b43 : (wI M2 b 7 (nI (tok + 3))).1 b 4 = -1 := by rw [mI_k (by decide)]; exact m4
      have en := r_enters (g := 1) q3 (by omega) (by omega)
      have q4 := nQ_open (fn := 1) (p := tok + 1) q3
      have oko := ok_open (fn := 1) (p := tok + 1) okd (by simp) (by omega)
      have b44 : (nOpen (wI M2 b 7 (nI (tok + 3))) b (L2 0).length sc 1).1 b 4 = -1 := by rw [nOpen_4]; exact b43
      have g4 : rF (rGrS b) M (nOpen (wI M2 b 7 (nI (tok + 3))) b (L2 0).length sc 1) := (g2.trans gr_7).trans nOpen_gr
      have m54 : (nOpen (wI M2 b 7 (nI (tok + 3))) b (L2 0).length sc 1).1 b 55 = M.1 b 55 := by
        rw [nOpen_fr.2 _ _ (by unfold nOpenS; omega), mI_k (by decide)]; exact m5
      have h54 : (qOpen 1 (tok + 1) sc L2 5).length < 64 := by rw [q_open_5]; exact h5'
      rw [tk2, xb_some, if_pos (show (wI M2 b 7 (nI (tok + 3))).1 b 4 < 0 by rw [b43]; decide)]
      show nRs _ _ _ _ (xbind (f_N_enters b (nI 1) (wI M2 b 7 (nI (tok + 3)))) _)
      rw [en, xb_some]
      generalize hM4 : nOpen (wI M2 b 7 (nI (tok + 3))) b (L2 0).length sc 1 = M4 at *
      generalize hL3 : qOpen 1 (tok + 1) sc L2 = L3 at *
      obtain ⟨f, hf⟩ : ∃ f, xFuel = f + 8 := ⟨1992, rfl⟩
      rw [hf]
      unfold qPars
      by_cases c17 : kT t (tok + 3) = 17
      · rw [if_pos c17]
        have is : f_N_is b 21 M4 = some (nI 1, M4) := r_isT (k := 17) q4.1 q4.2.1 t3 c17
        have g := r_154 (d := d) (tok0 := tok) (v := 0) q4 b44 t3 hr h54
        have o : f_N_function_56 b (nI d) (f + 8) 0 M4 = f_N_function_154 b (nI d) 0 M4 := by
          rw [show f + 8 = (f + 7) + 1 from rfl, f_N_function_56, if_neg (show ¬ 0 ≤ M4.1 b 4 by rw [b44]; decide), is, xb_some, if_neg (by decide), if_pos rfl]
        rw [o]; exact g.from g4 m54
      · rw [if_neg c17, qY_par]
        have is : f_N_is b 21 M4 = some (nI 0, M4) := r_isF (k := 17) q4.1 q4.2.1 t3 (by omega) c17
        have o : f_N_function_56 b (nI d) (f + 8) 0 M4 = f_N_function_101 b (nI d) (f_N_function_56 b (nI d) (f + 7)) (nI 0) M4 := by
          rw [show f + 8 = (f + 7) + 1 from rfl, f_N_function_56, if_neg (show ¬ 0 ≤ M4.1 b 4 by rw [b44]; decide), is, xb_some, if_pos (show nI 0 = 0 from rfl)]
          unfold f_N_function_91
          rw [if_pos (by decide)]
          rfl
        rw [o]
        unfold f_N_function_101
        by_cases c23 : kT t (tok + 3) = 23
        · rw [if_neg (fun e => e c23)]
          have t4 := g_T t (tok + 3) t3 (by omega)
          have tk3 : f_N_takes b 1 M4 = some ((), wI M4 b 7 (nI (tok + 4))) := r_takesT (k := 23) q4.1 q4.2.1 b44 t3 c23
          have q5 := q4.at (tok' := tok + 4)
          have b45 : (wI M4 b 7 (nI (tok + 4))).1 b 4 = -1 := by rw [mI_k (by decide)]; exact b44
          obtain ⟨M6, e1, e2, e3, e4, e5⟩ := r_declares' (p := tok + 3) (k := 4) q5 oko (by simp; omega) (by simp; omega) (by simp; omega) c23 (by omega)
          have oke := (ok_dec (wd := wT' t) (tok := tok + 3) (sort := 4) oko (by simp) (by simp) c23 (by omega)).1
          have m46 : M6.1 b 4 = -1 := by rw [e4]; exact b45
          have g6 : rF (rGrS b) M M6 := (g4.trans gr_7).trans e3
          have m56 : M6.1 b 55 = M.1 b 55 := by rw [e5, mI_k (by decide)]; exact m54
          have h56 : (qDecL (wT' t) (tok + 3) 4 (L2 0).length L3 5).length < 64 := by rw [q_dec_5]; exact h54
          rw [tk3, xb_some, if_neg (show ¬ 0 ≤ (wI M4 b 7 (nI (tok + 4))).1 b 4 by rw [b45]; decide)]
          show nRs _ _ _ _ (xbind (f_N_declares b ((wI M4 b 7 (nI (tok + 4))).1 b 7 - 1) (nI 4) _) _)
          rw [q5.2.1, show nI (tok + 4) - 1 = nI (tok + 3) from pk_subT (a := tok + 4) (b := 1) (by omega), e1, xb_some]
          unfold f_N_function_125 f_N_function_147 f_N_function_148
          rw [nI_inc, if_neg (by decide)]
          show nRs _ _ _ _ (xbind (f_N_wrongs b (nI 0) M6) _)
          rw [r_wrongs0, xb_some]
          exact (r_56 (d := d) (tok0 := tok) hr 3 (f + 7) (tok + 4) _ M6 _ (by omega) (by omega) t4 (by omega) c23 e2 m46 oke (by simp; omega) (by simp) (by simp) h56 (fun e => absurd e (by decide))).from g6 m56
        · rw [if_pos c23]
          have tk3 : f_N_takes b 1 M4 = some ((), wI M4 b 4 (nI (pS (pLex t) (tok + 3)))) := r_takesF (k := 23) q4.1 q4.2.1 b44 t3 (by omega) c23
          rw [tk3, xb_some, if_pos (show 0 ≤ (wI M4 b 4 (nI (pS (pLex t) (tok + 3)))).1 b 4 by rw [mI_s rfl rfl]; exact nI_le (Nat.zero_le _) (by omega))]
          obtain ⟨M', u1, u2, u3, u4⟩ := r_125B (d := d) (f := f + 6) (n := 0) (q4.bad (v := nI (pS (pLex t) (tok + 3)))) (by simp (disch := omega) only [↓reduceIte, nI_leT, nI_leF, nI_ltT, nI_ltF, nI_eqT, nI_eqF, xin_T, nI_clampT, nI_add, nI_inc, pk_subT, xb_some, xval, xlet, mI_s, mI_n, mI_k, mI_2, mJ_1, mJ_s, mJ_n, mJ_k, mJ_2, mT_1, mT_2, mT_s, mT_n, mT_k, mT_3, mR_1, mR_2, mR_3, bI_0, bI_1, bI_n0, bI_n1, Bool.true_eq_false, Bool.false_eq_true, eq_self, i_0, i_1, i_2, i_3, i_4, i_5, i_6, i_7, i_8, i_9, i_10, i_11, i_12, i_13, i_14, i_15, i_16, i_17, i_18, i_19, i_20, i_21, i_22, i_23, i_24, i_25, i_26, i_27, i_28, i_29, i_30, i_31, i_32, i_33, i_34, i_35, i_36, i_37, i_38, i_39, i_40, i_41, i_42, i_43, i_44, i_45, i_48, i_49, i_57, i_59, i_60, i_61, i_62, i_64, i_97, i_110, i_122, i_123, i_125, i_126, i_127, i_160, i_255, i_300, i_400]) le3 t3 hr h54 (by omega)
          exact .inl u1 ((g4.trans gr_4).trans u2) (by rw [u4, mI_k (by decide)]; exact m54) u3
    · rw [if_pos c2]
      have tk2 : f_N_takes b 20 M2 = some ((), wI M2 b 4 (nI (pS (pLex t) (tok + 2)))) := r_takesF (k := 16) d2.1 d2.2.1 m4 t2 (by omega) c2
      refine .inl (M' := wI M2 b 4 (nI (pS (pLex t) (tok + 2)))) ?_ (g2.trans gr_4) (by rw [mI_k (by decide)]; exact m5) (by simp (disch := omega) only [↓reduceIte, nI_leT, nI_leF, nI_ltT, nI_ltF, nI_eqT, nI_eqF, xin_T, nI_clampT, nI_add, nI_inc, pk_subT, xb_some, xval, xlet, mI_s, mI_n, mI_k, mI_2, mJ_1, mJ_s, mJ_n, mJ_k, mJ_2, mT_1, mT_2, mT_s, mT_n, mT_k, mT_3, mR_1, mR_2, mR_3, bI_0, bI_1, bI_n0, bI_n1, Bool.true_eq_false, Bool.false_eq_true, eq_self, i_0, i_1, i_2, i_3, i_4, i_5, i_6, i_7, i_8, i_9, i_10, i_11, i_12, i_13, i_14, i_15, i_16, i_17, i_18, i_19, i_20, i_21, i_22, i_23, i_24, i_25, i_26, i_27, i_28, i_29, i_30, i_31, i_32, i_33, i_34, i_35, i_36, i_37, i_38, i_39, i_40, i_41, i_42, i_43, i_44, i_45, i_48, i_49, i_57, i_59, i_60, i_61, i_62, i_64, i_97, i_110, i_122, i_123, i_125, i_126, i_127, i_160, i_255, i_300, i_400])
      rw [tk2, xb_some, if_neg (show ¬ (wI M2 b 4 (nI (pS (pLex t) (tok + 2)))).1 b 4 < 0 by rw [mI_s rfl rfl]; exact nI_nlt (Nat.zero_le _) (by omega))]
  · rw [if_pos c1]
    have tk : f_N_takes b (nI 1) (wI M b 7 (nI (tok + 1))) = some ((), wI (wI M b 7 (nI (tok + 1))) b 4 (nI (pS (pLex t) (tok + 1)))) := r_takesF (k := 23) q1.1 q1.2.1 b4 t1 (by omega) c1
    refine .inl (M' := wI (wI M b 7 (nI (tok + 1))) b 4 (nI (pS (pLex t) (tok + 1)))) ?_ (gr_7.trans gr_4) (by simp (disch := omega) only [↓reduceIte, nI_leT, nI_leF, nI_ltT, nI_ltF, nI_eqT, nI_eqF, xin_T, nI_clampT, nI_add, nI_inc, pk_subT, xb_some, xval, xlet, mI_s, mI_n, mI_k, mI_2, mJ_1, mJ_s, mJ_n, mJ_k, mJ_2, mT_1, mT_2, mT_s, mT_n, mT_k, mT_3, mR_1, mR_2, mR_3, bI_0, bI_1, bI_n0, bI_n1, Bool.true_eq_false, Bool.false_eq_true, eq_self, i_0, i_1, i_2, i_3, i_4, i_5, i_6, i_7, i_8, i_9, i_10, i_11, i_12, i_13, i_14, i_15, i_16, i_17, i_18, i_19, i_20, i_21, i_22, i_23, i_24, i_25, i_26, i_27, i_28, i_29, i_30, i_31, i_32, i_33, i_34, i_35, i_36, i_37, i_38, i_39, i_40, i_41, i_42, i_43, i_44, i_45, i_48, i_49, i_57, i_59, i_60, i_61, i_62, i_64, i_97, i_110, i_122, i_123, i_125, i_126, i_127, i_160, i_255, i_300, i_400]) (by simp (disch := omega) only [↓reduceIte, nI_leT, nI_leF, nI_ltT, nI_ltF, nI_eqT, nI_eqF, xin_T, nI_clampT, nI_add, nI_inc, pk_subT, xb_some, xval, xlet, mI_s, mI_n, mI_k, mI_2, mJ_1, mJ_s, mJ_n, mJ_k, mJ_2, mT_1, mT_2, mT_s, mT_n, mT_k, mT_3, mR_1, mR_2, mR_3, bI_0, bI_1, bI_n0, bI_n1, Bool.true_eq_false, Bool.false_eq_true, eq_self, i_0, i_1, i_2, i_3, i_4, i_5, i_6, i_7, i_8, i_9, i_10, i_11, i_12, i_13, i_14, i_15, i_16, i_17, i_18, i_19, i_20, i_21, i_22, i_23, i_24, i_25, i_26, i_27, i_28, i_29, i_30, i_31, i_32, i_33, i_34, i_35, i_36, i_37, i_38, i_39, i_40, i_41, i_42, i_43, i_44, i_45, i_48, i_49, i_57, i_59, i_60, i_61, i_62, i_64, i_97, i_110, i_122, i_123, i_125, i_126, i_127, i_160, i_255, i_300, i_400])
    rw [tk, xb_some, if_neg (show ¬ (wI (wI M b 7 (nI (tok + 1))) b 4 (nI (pS (pLex t) (tok + 1)))).1 b 4 < 0 by rw [mI_s rfl rfl]; exact nI_nlt (Nat.zero_le _) (by omega))]
