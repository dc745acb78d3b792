/-! PURE: steps of the reference's grammar: excuses, every STATEMENT -/
theorem wI_comm {M : xMem} {a k a' k' : Nat} {v v' : Int32} (h : a ≠ a' ∨ k ≠ k') : wI (wI M a k v) a' k' v' = wI (wI M a' k' v') a k v := by
  unfold wI
  refine Prod.ext ?_ rfl
  funext x y
  unfold va_up upd
  dsimp only
  by_cases e1 : x = a
  · by_cases e2 : x = a'
    · subst e1; subst e2
      simp only [if_true]
      by_cases f1 : y = k
      · by_cases f2 : y = k'
        · subst f1; subst f2; exact absurd rfl (h.resolve_left (fun h => h rfl))
        · simp [f1, f2]; intro e; exact absurd (f1.trans e) f2
      · simp [f1]
    · subst e1; simp [e2]
  · by_cases e2 : x = a'
    · subst e2; simp [e1]
    · simp [e1, e2]
theorem wI_over {M : xMem} {a k : Nat} {v v' : Int32} : wI (wI M a k v) a k v' = wI M a k v' := by
  unfold wI
  refine Prod.ext ?_ rfl
  funext x y
  unfold va_up upd
  dsimp only
  by_cases e1 : x = a
  · subst e1
    simp only [if_true]
    by_cases f1 : y = k
    · simp [f1]
    · simp [f1]
  · simp [e1]
theorem w60 {M : xMem} {b a k : Nat} {v w : Int32} (h : a ≠ b) : wI (wI M a k v) b 60 w = wI (wI M b 60 w) a k v := wI_comm (.inl h)
theorem w608 {M : xMem} {b : Nat} {v w : Int32} : wI (wI M b 8 v) b 60 w = wI (wI M b 60 w) b 8 v := wI_comm (.inr (by decide))
theorem w607 {M : xMem} {b : Nat} {v w : Int32} : wI (wI M b 7 v) b 60 w = wI (wI M b 60 w) b 7 v := wI_comm (.inr (by decide))
theorem w7 {M : xMem} {b a k : Nat} {v w : Int32} (h : a ≠ b) : wI (wI M a k v) b 7 w = wI (wI M b 7 w) a k v := wI_comm (.inl h)
theorem how_or : ∀ h, h < 4 → nI h ||| 2 = nI (h % 2 + 2) := by decide
theorem how_and : ∀ h, h < 4 → (nI h &&& 1 = 1 ↔ h % 2 = 1) := by decide
theorem rs_exc {M : xMem} {b d a h tok sc : Nat} {t : List Nat} {r : List qI} {L : qL} (hq : nQ M b t r tok sc L) (h4 : M.1 b 4 = -1) (ht : tok ≤ nT t) (hr : r.length ≤ 190) (hh : h ≤ 3) (l4 : (L 4).length < 64) (hk : kT t tok = 22) : nRes M b t (qsExc (kT t) (dT t) d a h r tok sc L) (f_N_excusing b (nI d) (nB a) (nI h) M) := by
  have hT := nT_le t
  have h7 := hq.2.1
  have t1 := g_T t tok ht (by omega)
  have q1 := hq.at (tok' := tok + 1)
  have b41 : (wI M b 7 (nI (tok + 1))).1 b 4 = -1 := by rw [mI_k (by decide)]; exact h4
  have le1 := pS_lt t (tok + 1) hq.1.1.2.1
  have hl := hq.1.1.2.1
  unfold f_N_excusing
  rw [h7, show nI tok + 1 = nI (tok + 1) from nI_1 tok]
  show nRes M b t _ (xbind (f_N_is b (nI 2) (wI M b 7 (nI (tok + 1)))) _)
  have bad : nRes M b t (.inl (tok + 1)) (f_N_excusing_42 b (nI d) (nB a) (nI h) (wI M b 7 (nI (tok + 1)))) := by
    have wr := r_wrongs1 q1.1 q1.2.1 b41 t1
    refine .inl (M' := wI (wI M b 7 (nI (tok + 1))) b 4 (nI (pS (pLex t) (tok + 1)))) ?_ (gr_7.trans gr_4) (by simp (disch := omega) only [↓reduceIte, nI_leT, nI_leF, nI_ltT, nI_ltF, nI_eqT, nI_eqF, xin_T, nI_clampT, nI_add, nI_inc, pk_subT, xb_some, xval, xlet, mI_s, mI_n, mI_k, mI_2, mJ_1, mJ_s, mJ_n, mJ_k, mJ_2, mT_1, mT_2, mT_s, mT_n, mT_k, mT_3, mR_1, mR_2, mR_3, bI_0, bI_1, bI_n0, bI_n1, Bool.true_eq_false, Bool.false_eq_true, eq_self, i_0, i_1, i_2, i_3, i_4, i_5, i_6, i_7, i_8, i_9, i_10, i_11, i_12, i_13, i_14, i_15, i_16, i_17, i_18, i_19, i_20, i_21, i_22, i_23, i_24, i_25, i_26, i_27, i_28, i_29, i_30, i_31, i_32, i_33, i_34, i_35, i_36, i_37, i_38, i_39, i_40, i_41, i_42, i_43, i_44, i_45, i_48, i_49, i_57, i_59, i_60, i_61, i_62, i_64, i_97, i_110, i_122, i_123, i_125, i_126, i_127, i_160, i_255, i_300, i_400])
    unfold f_N_excusing_42 f_N_excusing_47
    show xbind (f_N_wrongs b (nI 1) (wI M b 7 (nI (tok + 1)))) _ = _
    rw [wr, xb_some, if_neg (show ¬ (wI (wI M b 7 (nI (tok + 1))) b 4 (nI (pS (pLex t) (tok + 1)))).1 b 4 < 0 by rw [mI_s rfl rfl]; exact nI_nlt (Nat.zero_le _) (by omega))]
  by_cases c24 : kT t (tok + 1) = 24
  · have is : f_N_is b (nI 2) (wI M b 7 (nI (tok + 1))) = some (nI 1, wI M b 7 (nI (tok + 1))) := r_isT (k := 24) q1.1 q1.2.1 t1 c24
    have t2 := g_T t (tok + 1) t1 (by omega)
    have en := q1.1.2.2.1 (tok + 1) (by omega)
    have pl := pLex_len t
    have mem := pLex_mem (t := t) (i := tok + 1) (by unfold nT at t2; omega)
    obtain ⟨a1, a2, _⟩ := pLex_in t _ mem
    have a1 : pS (pLex t) (tok + 1) ≤ pE (pLex t) (tok + 1) := a1
    have a2 : pE (pLex t) (tok + 1) ≤ t.length := a2
    have dg : pDigit (pc t (pS (pLex t) (tok + 1))) = true := pLexN_dig 60 _ _ mem c24
    have dg : 48 ≤ pc t (pS (pLex t) (tok + 1)) ∧ pc t (pS (pLex t) (tok + 1)) ≤ 57 := of_decide_eq_true dg
    have e9 : M.1 (b + 9) (tok + 1) = nI (pS (pLex t) (tok + 1)) := by have := en.2.1; rw [mI_n (by omega)] at this; exact this
    have e10 : M.1 (b + 10) (tok + 1) = nI (pE (pLex t) (tok + 1)) := by have := en.2.2; rw [mI_n (by omega)] at this; exact this
    rw [is, xb_some, if_neg (by decide)]
    by_cases c1 : pE (pLex t) (tok + 1) - pS (pLex t) (tok + 1) = 1
    · have ed : dT t (tok + 1) = pc t (pS (pLex t) (tok + 1)) - 48 := by unfold dT; rw [if_pos c1]
      have eR : qsExc (kT t) (dT t) d a h r tok sc L = .inr ((2, d + 1, a, h % 2 + 2) :: (10, d, (L 4).length, 0) :: r, tok + 2, sc, qA 4 (dT t (tok + 1), tok + 2, 0, 0, 0) L) := by unfold qsExc; rw [if_pos ⟨c24, by omega⟩]
      rw [eR]
      have o : (if xin ((wI M b 7 (nI (tok + 1))).1 b 7) 64 = true then if xin ((wI M b 7 (nI (tok + 1))).1 b 7) 64 = true then if (((wI M b 7 (nI (tok + 1))).1 (b + 10) ((wI M b 7 (nI (tok + 1))).1 b 7).toNatClampNeg) - ((wI M b 7 (nI (tok + 1))).1 (b + 9) ((wI M b 7 (nI (tok + 1))).1 b 7).toNatClampNeg)) = 1 then (f_N_excusing_47 b (nI d) (nB a) (nI h) 0 (wI M b 7 (nI (tok + 1)))) else (f_N_excusing_42 b (nI d) (nB a) (nI h) (wI M b 7 (nI (tok + 1)))) else none else none) = f_N_excusing_47 b (nI d) (nB a) (nI h) (nI 0) (wI M b 7 (nI (tok + 1))) := by
        simp (disch := omega) only [↓reduceIte, nI_leT, nI_leF, nI_ltT, nI_ltF, nI_eqT, nI_eqF, xin_T, nI_clampT, nI_add, nI_inc, pk_subT, xb_some, xval, xlet, mI_s, mI_n, mI_k, mI_2, mJ_1, mJ_s, mJ_n, mJ_k, mJ_2, mT_1, mT_2, mT_s, mT_n, mT_k, mT_3, mR_1, mR_2, mR_3, bI_0, bI_1, bI_n0, bI_n1, Bool.true_eq_false, Bool.false_eq_true, eq_self, i_0, i_1, i_2, i_3, i_4, i_5, i_6, i_7, i_8, i_9, i_10, i_11, i_12, i_13, i_14, i_15, i_16, i_17, i_18, i_19, i_20, i_21, i_22, i_23, i_24, i_25, i_26, i_27, i_28, i_29, i_30, i_31, i_32, i_33, i_34, i_35, i_36, i_37, i_38, i_39, i_40, i_41, i_42, i_43, i_44, i_45, i_48, i_49, i_57, i_59, i_60, i_61, i_62, i_64, i_97, i_110, i_122, i_123, i_125, i_126, i_127, i_160, i_255, i_300, i_400, e9, e10, c1]
      rw [o]
      have x2 : M.1 (b + 2) (pS (pLex t) (tok + 1)) = nI (pc t (pS (pLex t) (tok + 1))) := hq.1.1.2.2.1 _ (by omega)
      have e92 : M.1 (b + 9) (tok + 2) = nI (pS (pLex t) (tok + 2)) := (r_kind hq.1 t2).2
      have h60 : M.1 b 60 = nI (L 4).length := hq.2.2.2.2.2.2.2.2.2.2.2.2.2.2.2.1.1
      have h8 := hq.2.2.1
      have q2 := hq.at (tok' := tok + 2)
      have q3 := nQ_nExc (d := dT t (tok + 1)) (q := tok + 2) q2
      have q4 := q3.push (10, d, (L 4).length, 0)
      have q5 := q4.push (2, d + 1, a, h % 2 + 2)
      have p5 := r_push (b := b) (w := 2) (d := d + 1) (a := nB a) (c := h % 2 + 2) q4.2.2.1 (by simp only [List.length_cons]; omega)
      have p5 : f_N_push b (nI 2) (nI (d + 1)) (nB a) (nI (h % 2 + 2)) (mPush (nExc (wI M b 7 (nI (tok + 2))) b (L 4).length (dT t (tok + 1)) (pS (pLex t) (tok + 2))) b r.length 10 d (nI (L 4).length) 0) = some ((), mPush (mPush (nExc (wI M b 7 (nI (tok + 2))) b (L 4).length (dT t (tok + 1)) (pS (pLex t) (tok + 2))) b r.length 10 d (nI (L 4).length) 0) b (r.length + 1) 2 (d + 1) (nB a) (h % 2 + 2)) := p5
      have pp := r_push (M := wI (wI (wI (wI M b 7 (nI (tok + 1))) (b + 36) (L 4).length (nI (dT t (tok + 1)))) b 7 (nI (tok + 2))) (b + 37) (L 4).length (nI (pS (pLex t) (tok + 2)))) (b := b) (h := r.length) (w := 10) (d := d) (a := nI (L 4).length) (c := 0) (by simp (disch := omega) only [↓reduceIte, nI_leT, nI_leF, nI_ltT, nI_ltF, nI_eqT, nI_eqF, xin_T, nI_clampT, nI_add, nI_inc, pk_subT, xb_some, xval, xlet, mI_s, mI_n, mI_k, mI_2, mJ_1, mJ_s, mJ_n, mJ_k, mJ_2, mT_1, mT_2, mT_s, mT_n, mT_k, mT_3, mR_1, mR_2, mR_3, bI_0, bI_1, bI_n0, bI_n1, Bool.true_eq_false, Bool.false_eq_true, eq_self, i_0, i_1, i_2, i_3, i_4, i_5, i_6, i_7, i_8, i_9, i_10, i_11, i_12, i_13, i_14, i_15, i_16, i_17, i_18, i_19, i_20, i_21, i_22, i_23, i_24, i_25, i_26, i_27, i_28, i_29, i_30, i_31, i_32, i_33, i_34, i_35, i_36, i_37, i_38, i_39, i_40, i_41, i_42, i_43, i_44, i_45, i_48, i_49, i_57, i_59, i_60, i_61, i_62, i_64, i_97, i_110, i_122, i_123, i_125, i_126, i_127, i_160, i_255, i_300, i_400, h8]) (by omega)
      have em : wI (mPush (wI (wI (wI (wI M b 7 (nI (tok + 1))) (b + 36) (L 4).length (nI (dT t (tok + 1)))) b 7 (nI (tok + 2))) (b + 37) (L 4).length (nI (pS (pLex t) (tok + 2)))) b r.length 10 d (nI (L 4).length) 0) b 60 (nI ((L 4).length + 1)) = mPush (nExc (wI M b 7 (nI (tok + 2))) b (L 4).length (dT t (tok + 1)) (pS (pLex t) (tok + 2))) b r.length 10 d (nI (L 4).length) 0 := by
        unfold mPush nExc
        simp (disch := omega) only [w60, w608, w607, w7, wI_over]
      have h60' : (mPush (wI (wI (wI (wI M b 7 (nI (tok + 1))) (b + 36) (L 4).length (nI (dT t (tok + 1)))) b 7 (nI (tok + 2))) (b + 37) (L 4).length (nI (pS (pLex t) (tok + 2)))) b r.length 10 d (nI (L 4).length) 0).1 b 60 = nI (L 4).length := by
        rw [mPush_fr.2 _ _ (by unfold rStS; omega)]; simp (disch := omega) only [↓reduceIte, nI_leT, nI_leF, nI_ltT, nI_ltF, nI_eqT, nI_eqF, xin_T, nI_clampT, nI_add, nI_inc, pk_subT, xb_some, xval, xlet, mI_s, mI_n, mI_k, mI_2, mJ_1, mJ_s, mJ_n, mJ_k, mJ_2, mT_1, mT_2, mT_s, mT_n, mT_k, mT_3, mR_1, mR_2, mR_3, bI_0, bI_1, bI_n0, bI_n1, Bool.true_eq_false, Bool.false_eq_true, eq_self, i_0, i_1, i_2, i_3, i_4, i_5, i_6, i_7, i_8, i_9, i_10, i_11, i_12, i_13, i_14, i_15, i_16, i_17, i_18, i_19, i_20, i_21, i_22, i_23, i_24, i_25, i_26, i_27, i_28, i_29, i_30, i_31, i_32, i_33, i_34, i_35, i_36, i_37, i_38, i_39, i_40, i_41, i_42, i_43, i_44, i_45, i_48, i_49, i_57, i_59, i_60, i_61, i_62, i_64, i_97, i_110, i_122, i_123, i_125, i_126, i_127, i_160, i_255, i_300, i_400, h60]
      have h4' : M.1 b 4 = -nI 1 := h4
      have n1 : (-nI 1 < nI 0) = True := by decide
      have ho := how_or h (by omega)
      have ho' : nI h ||| nI 2 = nI (h % 2 + 2) := ho
      refine .inr (M' := mPush (mPush (nExc (wI M b 7 (nI (tok + 2))) b (L 4).length (dT t (tok + 1)) (pS (pLex t) (tok + 2))) b r.length 10 d (nI (L 4).length) 0) b (r.length + 1) 2 (d + 1) (nB a) (h % 2 + 2)) ?_ (((gr_7.trans nExc_gr).trans mPush_gr).trans mPush_gr) q5 (by rw [mPush_4, mPush_4, nExc_4, mI_k (by decide)]; exact h4)
      rw [← em] at p5 ⊢
      rw [ed] at pp h60' p5 ⊢
      have sub : nI (pc t (pS (pLex t) (tok + 1))) - nI 48 = nI (pc t (pS (pLex t) (tok + 1)) - 48) := pk_subT (by omega)
      unfold f_N_excusing_47
      have pp' := pp
      have p5' : f_N_push b (nI 2) (nI (d + 1)) (nB a) (nI (h % 2 + 2)) (wI (mPush (wI (wI (wI (wI M b 7 (nI (tok + 1))) (b + 36) (L 4).length (nI (pc t (pS (pLex t) (tok + 1)) - 48))) b 7 (nI (tok + 2))) (b + 37) (L 4).length (nI (pS (pLex t) (tok + 2)))) b r.length 10 d (nI (L 4).length) 0) b 60 (nI ((L 4).length + 1))) = some ((), mPush (wI (mPush (wI (wI (wI (wI M b 7 (nI (tok + 1))) (b + 36) (L 4).length (nI (pc t (pS (pLex t) (tok + 1)) - 48))) b 7 (nI (tok + 2))) (b + 37) (L 4).length (nI (pS (pLex t) (tok + 2)))) b r.length 10 d (nI (L 4).length) 0) b 60 (nI ((L 4).length + 1))) b (r.length + 1) 2 (d + 1) (nB a) (h % 2 + 2)) := p5
      simp (disch := omega) only [↓reduceIte, nI_leT, nI_leF, nI_ltT, nI_ltF, nI_eqT, nI_eqF, xin_T, nI_clampT, nI_add, nI_inc, pk_subT, xb_some, xval, xlet, mI_s, mI_n, mI_k, mI_2, mJ_1, mJ_s, mJ_n, mJ_k, mJ_2, mT_1, mT_2, mT_s, mT_n, mT_k, mT_3, mR_1, mR_2, mR_3, bI_0, bI_1, bI_n0, bI_n1, Bool.true_eq_false, Bool.false_eq_true, eq_self, i_0, i_1, i_2, i_3, i_4, i_5, i_6, i_7, i_8, i_9, i_10, i_11, i_12, i_13, i_14, i_15, i_16, i_17, i_18, i_19, i_20, i_21, i_22, i_23, i_24, i_25, i_26, i_27, i_28, i_29, i_30, i_31, i_32, i_33, i_34, i_35, i_36, i_37, i_38, i_39, i_40, i_41, i_42, i_43, i_44, i_45, i_48, i_49, i_57, i_59, i_60, i_61, i_62, i_64, i_97, i_110, i_122, i_123, i_125, i_126, i_127, i_160, i_255, i_300, i_400, r_wrongs0, h4', n1, e9, x2, h60, e92, pp', h60', ho', p5']
    · have ed : dT t (tok + 1) = 10 := by unfold dT; rw [if_neg c1]
      have eR : qsExc (kT t) (dT t) d a h r tok sc L = .inl (tok + 1) := by unfold qsExc; rw [if_neg (fun e => by omega)]
      rw [eR]
      have o : (if xin ((wI M b 7 (nI (tok + 1))).1 b 7) 64 = true then if xin ((wI M b 7 (nI (tok + 1))).1 b 7) 64 = true then if (((wI M b 7 (nI (tok + 1))).1 (b + 10) ((wI M b 7 (nI (tok + 1))).1 b 7).toNatClampNeg) - ((wI M b 7 (nI (tok + 1))).1 (b + 9) ((wI M b 7 (nI (tok + 1))).1 b 7).toNatClampNeg)) = 1 then (f_N_excusing_47 b (nI d) (nB a) (nI h) 0 (wI M b 7 (nI (tok + 1)))) else (f_N_excusing_42 b (nI d) (nB a) (nI h) (wI M b 7 (nI (tok + 1)))) else none else none) = f_N_excusing_42 b (nI d) (nB a) (nI h) (wI M b 7 (nI (tok + 1))) := by
        simp (disch := omega) only [↓reduceIte, nI_leT, nI_leF, nI_ltT, nI_ltF, nI_eqT, nI_eqF, xin_T, nI_clampT, nI_add, nI_inc, pk_subT, xb_some, xval, xlet, mI_s, mI_n, mI_k, mI_2, mJ_1, mJ_s, mJ_n, mJ_k, mJ_2, mT_1, mT_2, mT_s, mT_n, mT_k, mT_3, mR_1, mR_2, mR_3, bI_0, bI_1, bI_n0, bI_n1, Bool.true_eq_false, Bool.false_eq_true, eq_self, i_0, i_1, i_2, i_3, i_4, i_5, i_6, i_7, i_8, i_9, i_10, i_11, i_12, i_13, i_14, i_15, i_16, i_17, i_18, i_19, i_20, i_21, i_22, i_23, i_24, i_25, i_26, i_27, i_28, i_29, i_30, i_31, i_32, i_33, i_34, i_35, i_36, i_37, i_38, i_39, i_40, i_41, i_42, i_43, i_44, i_45, i_48, i_49, i_57, i_59, i_60, i_61, i_62, i_64, i_97, i_110, i_122, i_123, i_125, i_126, i_127, i_160, i_255, i_300, i_400, e9, e10]
      rw [o]; exact bad
  · have is : f_N_is b (nI 2) (wI M b 7 (nI (tok + 1))) = some (nI 0, wI M b 7 (nI (tok + 1))) := r_isF (k := 24) q1.1 q1.2.1 t1 (by omega) c24
    have eR : qsExc (kT t) (dT t) d a h r tok sc L = .inl (tok + 1) := by unfold qsExc; rw [if_neg (fun e => c24 e.1)]
    rw [eR, is, xb_some, if_pos (show nI 0 = 0 from rfl)]
    exact bad
theorem nQ.cong {M : xMem} {b tok sc : Nat} {t : List Nat} {r : List qI} {L L' : qL} (h : nQ M b t r tok sc L) (e : L' = L) : nQ M b t r tok sc L' := by rw [e]; exact h
theorem rs_stat {M : xMem} {b d a h tok sc : Nat} {t : List Nat} {r : List qI} {L : qL} (hq : nQ M b t r tok sc L) (h4 : M.1 b 4 = -1) (hW : gW t ((2, d, a, h) :: r, tok, sc, L)) (hf : ∀ e, e ∈ L 5 → e.1 ≤ 1) : nRes M b t (qStat (kT t) (wT' t) (dT t) d a h r tok sc L) (f_N_statement b (nI d) (nB a) (nI h) M) := by
  have ht := hW.tok
  have hT := nT_le t
  have h7 := hq.2.1
  obtain ⟨hd1, hd2, hh, hi1, hi2, hi3⟩ := hW.2.2.1
  have hd2 : d ≤ 13 := hd2
  have hh : r.length ≤ 2 * d + 3 := hh
  have hi2 : a ≤ (L 5).length := hi2
  have hi3 : h ≤ 3 := hi3
  have ok : qOk (kT t) (fun _ => tok) sc L := hW.2.1.mono (by
    intro f; unfold qBd; show (if f = 15 then tok + 0 else tok) ≤ tok; split <;> omega)
  have l5 : (L 5).length ≤ tok + 1 := by
    have := (ok.1 5).len (lo := 0) (fun x _ => Nat.zero_le _) (by omega); omega
  have l4 : (L 4).length ≤ tok + 1 := by
    have := (ok.1 4).len (lo := 0) (fun x _ => Nat.zero_le _) (by omega); omega
  have l15 : (L 15).length ≤ tok + 1 := by
    have := (ok.1 15).len (lo := 0) (fun x _ => Nat.zero_le _) (by omega); omega
  have ek := (r_kind hq.1 ht.1).1
  have e9 := (r_kind hq.1 ht.1).2
  have kl := kT_lt t tok
  have rl := rk_lt _ kl
  have le0 := pS_lt t tok hq.1.1.2.1
  have bad : nRes M b t (.inl tok) (f_N_statement_36 b (nI d) (nB a) (nI h) (nI (rk (kT t tok))) M) := by
    have wr := r_wrongs1 hq.1 h7 h4 ht.1
    refine .inl (M' := wI M b 4 (nI (pS (pLex t) tok))) ?_ gr_4 (by simp (disch := omega) only [↓reduceIte, nI_leT, nI_leF, nI_ltT, nI_ltF, nI_eqT, nI_eqF, xin_T, nI_clampT, nI_add, nI_inc, pk_subT, xb_some, xval, xlet, mI_s, mI_n, mI_k, mI_2, mJ_1, mJ_s, mJ_n, mJ_k, mJ_2, mT_1, mT_2, mT_s, mT_n, mT_k, mT_3, mR_1, mR_2, mR_3, bI_0, bI_1, bI_n0, bI_n1, Bool.true_eq_false, Bool.false_eq_true, eq_self, i_0, i_1, i_2, i_3, i_4, i_5, i_6, i_7, i_8, i_9, i_10, i_11, i_12, i_13, i_14, i_15, i_16, i_17, i_18, i_19, i_20, i_21, i_22, i_23, i_24, i_25, i_26, i_27, i_28, i_29, i_30, i_31, i_32, i_33, i_34, i_35, i_36, i_37, i_38, i_39, i_40, i_41, i_42, i_43, i_44, i_45, i_48, i_49, i_57, i_59, i_60, i_61, i_62, i_64, i_97, i_110, i_122, i_123, i_125, i_126, i_127, i_160, i_255, i_300, i_400])
    unfold f_N_statement_36 f_N_statement_41
    show xbind (f_N_wrongs b (nI 1) M) _ = _
    rw [wr, xb_some, if_neg (show ¬ (wI M b 4 (nI (pS (pLex t) tok))).1 b 4 < 0 by rw [mI_s rfl rfl]; exact nI_nlt (Nat.zero_le _) (by omega))]
  unfold qStat f_N_statement
  rw [h7, if_pos (xin_T (by omega) (by omega)), nI_clampT (by omega), ek]
  by_cases cd : 12 < d
  · rw [if_pos (.inl cd), if_pos (show 12 < nI d from (nI_lt (a := 12) cd (by omega) : nI 12 < nI d))]
    exact bad
  rw [if_neg (show ¬ 12 < nI d from (nI_nlt (a := 12) (b := d) (by omega) (by omega) : ¬ nI 12 < nI d))]
  have hin : f_N_in (nI (rk (kT t tok))) 4 7 M = some (bI (decide (kT t tok ≤ 3)), M) := by
    unfold f_N_in
    by_cases c : kT t tok ≤ 3
    · have e : rk (kT t tok) = kT t tok + 4 := by unfold rk; rw [if_pos (by omega)]
      rw [e, decide_eq_true c]; simp (disch := omega) only [↓reduceIte, nI_leT, nI_leF, nI_ltT, nI_ltF, nI_eqT, nI_eqF, xin_T, nI_clampT, nI_add, nI_inc, pk_subT, xb_some, xval, xlet, mI_s, mI_n, mI_k, mI_2, mJ_1, mJ_s, mJ_n, mJ_k, mJ_2, mT_1, mT_2, mT_s, mT_n, mT_k, mT_3, mR_1, mR_2, mR_3, bI_0, bI_1, bI_n0, bI_n1, Bool.true_eq_false, Bool.false_eq_true, eq_self, i_0, i_1, i_2, i_3, i_4, i_5, i_6, i_7, i_8, i_9, i_10, i_11, i_12, i_13, i_14, i_15, i_16, i_17, i_18, i_19, i_20, i_21, i_22, i_23, i_24, i_25, i_26, i_27, i_28, i_29, i_30, i_31, i_32, i_33, i_34, i_35, i_36, i_37, i_38, i_39, i_40, i_41, i_42, i_43, i_44, i_45, i_48, i_49, i_57, i_59, i_60, i_61, i_62, i_64, i_97, i_110, i_122, i_123, i_125, i_126, i_127, i_160, i_255, i_300, i_400]; rfl
    · rw [decide_eq_false c]
      by_cases c4 : rk (kT t tok) < 4
      · simp (disch := omega) only [↓reduceIte, nI_leT, nI_leF, nI_ltT, nI_ltF, nI_eqT, nI_eqF, xin_T, nI_clampT, nI_add, nI_inc, pk_subT, xb_some, xval, xlet, mI_s, mI_n, mI_k, mI_2, mJ_1, mJ_s, mJ_n, mJ_k, mJ_2, mT_1, mT_2, mT_s, mT_n, mT_k, mT_3, mR_1, mR_2, mR_3, bI_0, bI_1, bI_n0, bI_n1, Bool.true_eq_false, Bool.false_eq_true, eq_self, i_0, i_1, i_2, i_3, i_4, i_5, i_6, i_7, i_8, i_9, i_10, i_11, i_12, i_13, i_14, i_15, i_16, i_17, i_18, i_19, i_20, i_21, i_22, i_23, i_24, i_25, i_26, i_27, i_28, i_29, i_30, i_31, i_32, i_33, i_34, i_35, i_36, i_37, i_38, i_39, i_40, i_41, i_42, i_43, i_44, i_45, i_48, i_49, i_57, i_59, i_60, i_61, i_62, i_64, i_97, i_110, i_122, i_123, i_125, i_126, i_127, i_160, i_255, i_300, i_400]; rfl
      · have c6 : 7 < rk (kT t tok) := by
          have : ∀ k, k < 28 → ¬ k ≤ 3 → ¬ rk k < 4 → 7 < rk k := by decide
          exact this _ kl c c4
        simp (disch := omega) only [↓reduceIte, nI_leT, nI_leF, nI_ltT, nI_ltF, nI_eqT, nI_eqF, xin_T, nI_clampT, nI_add, nI_inc, pk_subT, xb_some, xval, xlet, mI_s, mI_n, mI_k, mI_2, mJ_1, mJ_s, mJ_n, mJ_k, mJ_2, mT_1, mT_2, mT_s, mT_n, mT_k, mT_3, mR_1, mR_2, mR_3, bI_0, bI_1, bI_n0, bI_n1, Bool.true_eq_false, Bool.false_eq_true, eq_self, i_0, i_1, i_2, i_3, i_4, i_5, i_6, i_7, i_8, i_9, i_10, i_11, i_12, i_13, i_14, i_15, i_16, i_17, i_18, i_19, i_20, i_21, i_22, i_23, i_24, i_25, i_26, i_27, i_28, i_29, i_30, i_31, i_32, i_33, i_34, i_35, i_36, i_37, i_38, i_39, i_40, i_41, i_42, i_43, i_44, i_45, i_48, i_49, i_57, i_59, i_60, i_61, i_62, i_64, i_97, i_110, i_122, i_123, i_125, i_126, i_127, i_160, i_255, i_300, i_400]; rfl
  have ha := how_and h (by omega)
  by_cases ch : h % 2 = 1 ∧ kT t tok ≤ 3
  · rw [if_pos (.inr ch), if_pos (ha.mpr ch.1)]
    show nRes M b t _ (xbind (f_N_in (nI (rk (kT t tok))) 4 7 M) _)
    rw [hin, xb_some, decide_eq_true ch.2, if_neg (by decide)]
    exact bad
  rw [if_neg (by omega)]
  have o : (if (nI h &&& 1) = 1 then (xval (nI (rk (kT t tok))) fun x146 => xbind (f_N_in x146 4 7 M) fun r147 M => if r147 = 0 then (f_N_statement_40 b (nI d) (nB a) (nI h) x146 M) else (f_N_statement_36 b (nI d) (nB a) (nI h) x146 M)) else (f_N_statement_40 b (nI d) (nB a) (nI h) (nI (rk (kT t tok))) M)) = f_N_statement_40 b (nI d) (nB a) (nI h) (nI (rk (kT t tok))) M := by
    by_cases c : h % 2 = 1
    · rw [if_pos (ha.mpr c)]
      show xbind (f_N_in (nI (rk (kT t tok))) 4 7 M) _ = _
      rw [hin, xb_some, decide_eq_false (fun e => ch ⟨c, e⟩), if_pos (by decide)]
    · rw [if_neg (fun e => c (ha.mp e))]
  rw [o]
  unfold f_N_statement_40 f_N_statement_41
  show nRes M b t _ (xbind (f_N_wrongs b (nI 0) M) _)
  rw [r_wrongs0, xb_some, if_pos (show M.1 b 4 < 0 by rw [h4]; decide)]
  by_cases c22 : kT t tok = 22
  · rw [if_pos c22, if_pos (show nI (rk (kT t tok)) = 26 by rw [c22]; rfl)]
    have g := rs_exc (d := d) (a := a) (h := h) hq h4 ht.1 (by omega) hi3 (by omega) c22
    obtain ⟨M', o1, o2, o3⟩ := g
    rw [o1, xb_some]
    exact ⟨M', rfl, o2, o3⟩
  rw [if_neg c22, if_neg (show ¬ nI (rk (kT t tok)) = 26 from fun e => c22 (rk_inj _ kl 22 (by omega) ((nI_eq (a := rk (kT t tok)) (b := 26) (by omega) (by omega)).mp e))), h7, if_pos (xin_T (by omega) (by omega)), nI_clampT (by omega), e9]
  have eS : (if kT t tok ≤ 2 then qsVar (kT t) (wT' t) d (kT t tok) r tok sc (qNote a tok (kT t tok) L) else if kT t tok = 3 then qsFn (kT t) (wT' t) d r tok sc (qNote a tok (kT t tok) L) else if kT t tok = 18 then qsBlk (kT t) d a h r tok sc (qNote a tok (kT t tok) L) else if kT t tok = 4 ∨ kT t tok = 6 then qsIf (kT t) d (kT t tok) r tok sc (qNote a tok (kT t tok) L) else if kT t tok = 7 then qsRet (kT t) d r tok sc (qNote a tok (kT t tok) L) else if kT t tok = 20 then .inr (r, tok + 1, sc, qSpaL a h tok (qNote a tok (kT t tok) L)) else .inr ((5, d, 0, 0) :: (4, d, 20, 0) :: r, tok, sc, qNote a tok (kT t tok) L)) = qRestS (kT t) (wT' t) d a h r tok sc (qNote a tok (kT t tok) L) := rfl
  rw [eS]
  by_cases ca : a = 0
  · subst ca
    have eN : qNote 0 tok (kT t tok) L = L := by unfold qNote; rw [if_pos rfl]
    rw [eN, if_pos (by decide)]
    unfold f_N_statement_96 f_N_statement_97
    rw [if_pos (by decide)]
    have g := rs_121 (d := d) (a := 0) (h := h) (v6 := 0) (n := (L 15).length) hq h4 ht.1 (by omega) (by omega) hi3 ok (by omega) c22 rfl (by omega) (by omega)
    rw [if_neg (by decide)] at g
    exact g
  · have nb : nB a = nI (a - 1) := by unfold nB; rw [if_neg ca]
    have nl : ¬ nB a < 0 := fun e => ca ((nB_lt (by omega)).mp e)
    have e16 : M.1 (b + 16) (a - 1) = nI (qg (L 5) (a - 1)).1 := hq.2.2.2.2.2.2.1.at (c := (16, fun e => nI e.1)) (by simp [c5]) (by omega)
    /- the list's flag, then the STATEMENT -/
    have go : ∀ v6, v6 ≤ 1 → nRes M b t (if v6 = 1 then qMapL (qA 15 (tok, 0, 0, 0, 0)) (qRestS (kT t) (wT' t) d a h r tok sc (qM 5 (a - 1) (fun e => (if kT t tok = 7 then 1 else 0, e.2)) L)) else qRestS (kT t) (wT' t) d a h r tok sc (qM 5 (a - 1) (fun e => (if kT t tok = 7 then 1 else 0, e.2)) L)) (f_N_statement_97 b (nI d) (nB a) (nI h) (nI (rk (kT t tok))) (nI (pS (pLex t) tok)) (nI v6) M) := by
      intro v6 hv
      have okm : qOk (kT t) (fun _ => tok) sc (qM 5 (a - 1) (fun e => (if kT t tok = 7 then 1 else 0, e.2)) L) := ⟨ok.1.M (fun e => rfl), ok.2⟩
      have qb := nQ_nBack (n := a - 1) (g := if kT t tok = 7 then 1 else 0) hq
      have l5m : ((qM 5 (a - 1) (fun e => (if kT t tok = 7 then 1 else 0, e.2)) L) 5).length < 64 := by rw [qM_s, List.length_modify]; omega
      have g := rs_121 (d := d) (a := a) (h := h) (v6 := v6) (n := (L 15).length) qb (by rw [nBack_4]; exact h4) ht.1 (by omega) (by omega) hi3 okm l5m c22 rfl (by omega) hv
      have o : f_N_statement_97 b (nI d) (nB a) (nI h) (nI (rk (kT t tok))) (nI (pS (pLex t) tok)) (nI v6) M = f_N_statement_121 b (nI d) (nB a) (nI h) (nI (rk (kT t tok))) (nI (pS (pLex t) tok)) (nI v6) (nBack M b (a - 1) (if kT t tok = 7 then 1 else 0)) := by
        unfold f_N_statement_97
        rw [if_neg nl]
        by_cases c7 : kT t tok = 7
        · rw [if_pos (show nI (rk (kT t tok)) = 11 by rw [c7]; rfl), if_pos c7]
          unfold f_N_statement_120
          rw [if_pos (show xin (nB a) 64 = true by rw [nb]; exact xin_T (by omega) (by omega)), show (nB a).toNatClampNeg = a - 1 by rw [nb]; exact nI_clampT (by omega)]
          rfl
        · rw [if_neg (show ¬ nI (rk (kT t tok)) = 11 from fun e => c7 (rk_inj _ kl 7 (by omega) ((nI_eq (a := rk (kT t tok)) (b := 11) (by omega) (by omega)).mp e))), if_neg c7]
          unfold f_N_statement_120
          rw [if_pos (show xin (nB a) 64 = true by rw [nb]; exact xin_T (by omega) (by omega)), show (nB a).toNatClampNeg = a - 1 by rw [nb]; exact nI_clampT (by omega)]
          rfl
      rw [o]
      exact g.from nBack_gr
    rw [if_neg nl, if_pos (show xin (nB a) 64 = true by rw [nb]; exact xin_T (by omega) (by omega)), show (nB a).toNatClampNeg = a - 1 by rw [nb]; exact nI_clampT (by omega), e16]
    by_cases cf : (qg (L 5) (a - 1)).1 = 1
    · have eN : qNote a tok (kT t tok) L = qA 15 (tok, 0, 0, 0, 0) (qM 5 (a - 1) (fun e => (if kT t tok = 7 then 1 else 0, e.2)) L) := by unfold qNote; dsimp only; rw [if_neg ca, if_pos cf]
      rw [eN, rest15, if_pos (show nI (qg (L 5) (a - 1)).1 = 1 by rw [cf]; rfl)]
      have g := go 1 (by omega)
      rw [if_pos rfl] at g
      exact g
    · have eN : qNote a tok (kT t tok) L = qM 5 (a - 1) (fun e => (if kT t tok = 7 then 1 else 0, e.2)) L := by unfold qNote; dsimp only; rw [if_neg ca, if_neg cf]
      have ne : ¬ nI (qg (L 5) (a - 1)).1 = 1 := by
        intro e
        have := hf _ (qg_mem (l := L 5) (i := a - 1) (by omega))
        exact cf ((nI_eq (a := (qg (L 5) (a - 1)).1) (b := 1) (by omega) (by omega)).mp e)
      rw [eN, if_neg ne]
      have g := go 0 (by omega)
      rw [if_neg (by decide)] at g
      exact g
